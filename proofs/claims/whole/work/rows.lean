section
-- ===== PART A: goes FIRST, ahead of the names: the tables' words, and 'selects' of the private methods out of them =====
/-- a private method of a class that the tables say can be made, by its rows of tables_1 -/
def lw_okq (q : MethodName × Nat) : Prop := (q.1.cls ≠ "java/lang/invoke/MethodHandle" ∧ q.1.cls ≠ "java/lang/invoke/VarHandle") ∧ Cond.instantiable q.1.cls q.2 ∈ tables_1 ∧ Cond.privateMethod q.1 ∈ tables_1 ∧ Cond.instanceMethod q.1 ∈ tables_1
theorem lw_p0 : lw_okq (⟨"DroveRoads$Road", "measure", "()V"⟩, 7) := ⟨⟨by decide +kernel, by decide +kernel⟩, List.mem_of_getElem? (i := 28) (by decide +kernel), List.mem_of_getElem? (i := 235) (by decide +kernel), List.mem_of_getElem? (i := 236) (by decide +kernel)⟩
theorem lw_p1 : lw_okq (⟨"DroveRoads", "priceKnownAt", "(I)I"⟩, 12) := ⟨⟨by decide +kernel, by decide +kernel⟩, List.mem_of_getElem? (i := 20) (by decide +kernel), List.mem_of_getElem? (i := 336) (by decide +kernel), List.mem_of_getElem? (i := 337) (by decide +kernel)⟩
theorem lw_p2 : lw_okq (⟨"DroveRoads", "feedFour", "(I)V"⟩, 12) := ⟨⟨by decide +kernel, by decide +kernel⟩, List.mem_of_getElem? (i := 20) (by decide +kernel), List.mem_of_getElem? (i := 352) (by decide +kernel), List.mem_of_getElem? (i := 353) (by decide +kernel)⟩
theorem lw_p3 : lw_okq (⟨"DroveRoads", "findHerd", "(I)LDroveRoads$Herd;"⟩, 12) := ⟨⟨by decide +kernel, by decide +kernel⟩, List.mem_of_getElem? (i := 20) (by decide +kernel), List.mem_of_getElem? (i := 364) (by decide +kernel), List.mem_of_getElem? (i := 365) (by decide +kernel)⟩
theorem lw_p4 : lw_okq (⟨"DroveRoads$Lexer", "byteAt", "(I)I"⟩, 6) := ⟨⟨by decide +kernel, by decide +kernel⟩, List.mem_of_getElem? (i := 374) (by decide +kernel), List.mem_of_getElem? (i := 435) (by decide +kernel), List.mem_of_getElem? (i := 436) (by decide +kernel)⟩
theorem lw_p5 : lw_okq (⟨"DroveRoads$Lexer", "scanWord", "()V"⟩, 6) := ⟨⟨by decide +kernel, by decide +kernel⟩, List.mem_of_getElem? (i := 374) (by decide +kernel), List.mem_of_getElem? (i := 445) (by decide +kernel), List.mem_of_getElem? (i := 446) (by decide +kernel)⟩
theorem lw_p6 : lw_okq (⟨"DroveRoads$Lexer", "wordToken", "()I"⟩, 6) := ⟨⟨by decide +kernel, by decide +kernel⟩, List.mem_of_getElem? (i := 374) (by decide +kernel), List.mem_of_getElem? (i := 449) (by decide +kernel), List.mem_of_getElem? (i := 450) (by decide +kernel)⟩
theorem lw_p7 : lw_okq (⟨"DroveRoads$Lexer", "letterAt", "(I)I"⟩, 6) := ⟨⟨by decide +kernel, by decide +kernel⟩, List.mem_of_getElem? (i := 374) (by decide +kernel), List.mem_of_getElem? (i := 464) (by decide +kernel), List.mem_of_getElem? (i := 465) (by decide +kernel)⟩
theorem lw_p8 : lw_okq (⟨"DroveRoads$Lexer", "scanNumber", "()V"⟩, 6) := ⟨⟨by decide +kernel, by decide +kernel⟩, List.mem_of_getElem? (i := 374) (by decide +kernel), List.mem_of_getElem? (i := 509) (by decide +kernel), List.mem_of_getElem? (i := 510) (by decide +kernel)⟩
theorem lw_p9 : lw_okq (⟨"DroveRoads$Lexer", "scanSign", "(C)V"⟩, 6) := ⟨⟨by decide +kernel, by decide +kernel⟩, List.mem_of_getElem? (i := 374) (by decide +kernel), List.mem_of_getElem? (i := 513) (by decide +kernel), List.mem_of_getElem? (i := 514) (by decide +kernel)⟩
theorem lw_p10 : lw_okq (⟨"DroveRoads$Parser", "readLine", "()Z"⟩, 5) := ⟨⟨by decide +kernel, by decide +kernel⟩, List.mem_of_getElem? (i := 368) (by decide +kernel), List.mem_of_getElem? (i := 575) (by decide +kernel), List.mem_of_getElem? (i := 576) (by decide +kernel)⟩
theorem lw_p11 : lw_okq (⟨"DroveRoads$Parser", "take", "(I)Z"⟩, 5) := ⟨⟨by decide +kernel, by decide +kernel⟩, List.mem_of_getElem? (i := 368) (by decide +kernel), List.mem_of_getElem? (i := 579) (by decide +kernel), List.mem_of_getElem? (i := 580) (by decide +kernel)⟩
theorem lw_p12 : lw_okq (⟨"DroveRoads$Parser", "refuse", "()Z"⟩, 5) := ⟨⟨by decide +kernel, by decide +kernel⟩, List.mem_of_getElem? (i := 368) (by decide +kernel), List.mem_of_getElem? (i := 583) (by decide +kernel), List.mem_of_getElem? (i := 584) (by decide +kernel)⟩
theorem lw_p13 : lw_okq (⟨"DroveRoads$Parser", "refuseFor", "(I)Z"⟩, 5) := ⟨⟨by decide +kernel, by decide +kernel⟩, List.mem_of_getElem? (i := 368) (by decide +kernel), List.mem_of_getElem? (i := 587) (by decide +kernel), List.mem_of_getElem? (i := 588) (by decide +kernel)⟩
theorem lw_p14 : lw_okq (⟨"DroveRoads$Parser", "readE", "(I)Z"⟩, 5) := ⟨⟨by decide +kernel, by decide +kernel⟩, List.mem_of_getElem? (i := 368) (by decide +kernel), List.mem_of_getElem? (i := 591) (by decide +kernel), List.mem_of_getElem? (i := 592) (by decide +kernel)⟩
theorem lw_p15 : lw_okq (⟨"DroveRoads$Parser", "readBoth", "(I)Z"⟩, 5) := ⟨⟨by decide +kernel, by decide +kernel⟩, List.mem_of_getElem? (i := 368) (by decide +kernel), List.mem_of_getElem? (i := 595) (by decide +kernel), List.mem_of_getElem? (i := 596) (by decide +kernel)⟩
def lw_privs_1 : List (MethodName × Nat) := [(⟨"DroveRoads$Road", "measure", "()V"⟩, 7), (⟨"DroveRoads", "priceKnownAt", "(I)I"⟩, 12), (⟨"DroveRoads", "feedFour", "(I)V"⟩, 12), (⟨"DroveRoads", "findHerd", "(I)LDroveRoads$Herd;"⟩, 12), (⟨"DroveRoads$Lexer", "byteAt", "(I)I"⟩, 6), (⟨"DroveRoads$Lexer", "scanWord", "()V"⟩, 6), (⟨"DroveRoads$Lexer", "wordToken", "()I"⟩, 6), (⟨"DroveRoads$Lexer", "letterAt", "(I)I"⟩, 6), (⟨"DroveRoads$Lexer", "scanNumber", "()V"⟩, 6), (⟨"DroveRoads$Lexer", "scanSign", "(C)V"⟩, 6), (⟨"DroveRoads$Parser", "readLine", "()Z"⟩, 5), (⟨"DroveRoads$Parser", "take", "(I)Z"⟩, 5), (⟨"DroveRoads$Parser", "refuse", "()Z"⟩, 5), (⟨"DroveRoads$Parser", "refuseFor", "(I)Z"⟩, 5), (⟨"DroveRoads$Parser", "readE", "(I)Z"⟩, 5), (⟨"DroveRoads$Parser", "readBoth", "(I)Z"⟩, 5)]
theorem lw_r1 : ∀ q ∈ lw_privs_1, lw_okq q := List.forall_mem_cons.mpr ⟨lw_p0, List.forall_mem_cons.mpr ⟨lw_p1, List.forall_mem_cons.mpr ⟨lw_p2, List.forall_mem_cons.mpr ⟨lw_p3, List.forall_mem_cons.mpr ⟨lw_p4, List.forall_mem_cons.mpr ⟨lw_p5, List.forall_mem_cons.mpr ⟨lw_p6, List.forall_mem_cons.mpr ⟨lw_p7, List.forall_mem_cons.mpr ⟨lw_p8, List.forall_mem_cons.mpr ⟨lw_p9, List.forall_mem_cons.mpr ⟨lw_p10, List.forall_mem_cons.mpr ⟨lw_p11, List.forall_mem_cons.mpr ⟨lw_p12, List.forall_mem_cons.mpr ⟨lw_p13, List.forall_mem_cons.mpr ⟨lw_p14, List.forall_mem_cons.mpr ⟨lw_p15, fun _ h => absurd h List.not_mem_nil⟩⟩⟩⟩⟩⟩⟩⟩⟩⟩⟩⟩⟩⟩⟩⟩
theorem lw_p16 : lw_okq (⟨"DroveRoads$Parser", "readOne", "(I)Z"⟩, 5) := ⟨⟨by decide +kernel, by decide +kernel⟩, List.mem_of_getElem? (i := 368) (by decide +kernel), List.mem_of_getElem? (i := 599) (by decide +kernel), List.mem_of_getElem? (i := 600) (by decide +kernel)⟩
theorem lw_p17 : lw_okq (⟨"DroveRoads$Parser", "write", "(I)Z"⟩, 5) := ⟨⟨by decide +kernel, by decide +kernel⟩, List.mem_of_getElem? (i := 368) (by decide +kernel), List.mem_of_getElem? (i := 603) (by decide +kernel), List.mem_of_getElem? (i := 604) (by decide +kernel)⟩
theorem lw_p18 : lw_okq (⟨"DroveRoads$Parser", "readSum", "(I)Z"⟩, 5) := ⟨⟨by decide +kernel, by decide +kernel⟩, List.mem_of_getElem? (i := 368) (by decide +kernel), List.mem_of_getElem? (i := 611) (by decide +kernel), List.mem_of_getElem? (i := 612) (by decide +kernel)⟩
theorem lw_p19 : lw_okq (⟨"DroveRoads$Parser", "readTerm", "(I)Z"⟩, 5) := ⟨⟨by decide +kernel, by decide +kernel⟩, List.mem_of_getElem? (i := 368) (by decide +kernel), List.mem_of_getElem? (i := 615) (by decide +kernel), List.mem_of_getElem? (i := 616) (by decide +kernel)⟩
theorem lw_p20 : lw_okq (⟨"DroveRoads$Parser", "readOperand", "()Z"⟩, 5) := ⟨⟨by decide +kernel, by decide +kernel⟩, List.mem_of_getElem? (i := 368) (by decide +kernel), List.mem_of_getElem? (i := 619) (by decide +kernel), List.mem_of_getElem? (i := 620) (by decide +kernel)⟩
theorem lw_p21 : lw_okq (⟨"DroveRoads$Parser", "readAct", "()Z"⟩, 5) := ⟨⟨by decide +kernel, by decide +kernel⟩, List.mem_of_getElem? (i := 368) (by decide +kernel), List.mem_of_getElem? (i := 624) (by decide +kernel), List.mem_of_getElem? (i := 625) (by decide +kernel)⟩
theorem lw_p22 : lw_okq (⟨"DroveRoads$Parser", "endLine", "(I)Z"⟩, 5) := ⟨⟨by decide +kernel, by decide +kernel⟩, List.mem_of_getElem? (i := 368) (by decide +kernel), List.mem_of_getElem? (i := 628) (by decide +kernel), List.mem_of_getElem? (i := 629) (by decide +kernel)⟩
theorem lw_p23 : lw_okq (⟨"DroveRoads", "passDay", "()V"⟩, 12) := ⟨⟨by decide +kernel, by decide +kernel⟩, List.mem_of_getElem? (i := 20) (by decide +kernel), List.mem_of_getElem? (i := 645) (by decide +kernel), List.mem_of_getElem? (i := 646) (by decide +kernel)⟩
theorem lw_p24 : lw_okq (⟨"DroveRoads", "drive", "(LDroveRoads$Herd;)V"⟩, 12) := ⟨⟨by decide +kernel, by decide +kernel⟩, List.mem_of_getElem? (i := 20) (by decide +kernel), List.mem_of_getElem? (i := 654) (by decide +kernel), List.mem_of_getElem? (i := 655) (by decide +kernel)⟩
theorem lw_p25 : lw_okq (⟨"DroveRoads$Reckoner", "reckon", "([III)I"⟩, 3) := ⟨⟨by decide +kernel, by decide +kernel⟩, List.mem_of_getElem? (i := 139) (by decide +kernel), List.mem_of_getElem? (i := 678) (by decide +kernel), List.mem_of_getElem? (i := 679) (by decide +kernel)⟩
theorem lw_p26 : lw_okq (⟨"DroveRoads$Reckoner", "push", "(I)V"⟩, 3) := ⟨⟨by decide +kernel, by decide +kernel⟩, List.mem_of_getElem? (i := 139) (by decide +kernel), List.mem_of_getElem? (i := 682) (by decide +kernel), List.mem_of_getElem? (i := 683) (by decide +kernel)⟩
theorem lw_p27 : lw_okq (⟨"DroveRoads$Reckoner", "reckonToken", "(I)V"⟩, 3) := ⟨⟨by decide +kernel, by decide +kernel⟩, List.mem_of_getElem? (i := 139) (by decide +kernel), List.mem_of_getElem? (i := 686) (by decide +kernel), List.mem_of_getElem? (i := 687) (by decide +kernel)⟩
theorem lw_p28 : lw_okq (⟨"DroveRoads$Reckoner", "pop", "()I"⟩, 3) := ⟨⟨by decide +kernel, by decide +kernel⟩, List.mem_of_getElem? (i := 139) (by decide +kernel), List.mem_of_getElem? (i := 690) (by decide +kernel), List.mem_of_getElem? (i := 691) (by decide +kernel)⟩
theorem lw_p29 : lw_okq (⟨"DroveRoads", "walkOn", "(LDroveRoads$Herd;)V"⟩, 12) := ⟨⟨by decide +kernel, by decide +kernel⟩, List.mem_of_getElem? (i := 20) (by decide +kernel), List.mem_of_getElem? (i := 697) (by decide +kernel), List.mem_of_getElem? (i := 698) (by decide +kernel)⟩
theorem lw_p30 : lw_okq (⟨"DroveRoads$Herd", "sellHeads", "(I)I"⟩, 12) := ⟨⟨by decide +kernel, by decide +kernel⟩, List.mem_of_getElem? (i := 268) (by decide +kernel), List.mem_of_getElem? (i := 717) (by decide +kernel), List.mem_of_getElem? (i := 718) (by decide +kernel)⟩
theorem lw_p31 : lw_okq (⟨"DroveRoads$Herd", "earn", "(I)V"⟩, 12) := ⟨⟨by decide +kernel, by decide +kernel⟩, List.mem_of_getElem? (i := 268) (by decide +kernel), List.mem_of_getElem? (i := 721) (by decide +kernel), List.mem_of_getElem? (i := 722) (by decide +kernel)⟩
def lw_privs_2 : List (MethodName × Nat) := [(⟨"DroveRoads$Parser", "readOne", "(I)Z"⟩, 5), (⟨"DroveRoads$Parser", "write", "(I)Z"⟩, 5), (⟨"DroveRoads$Parser", "readSum", "(I)Z"⟩, 5), (⟨"DroveRoads$Parser", "readTerm", "(I)Z"⟩, 5), (⟨"DroveRoads$Parser", "readOperand", "()Z"⟩, 5), (⟨"DroveRoads$Parser", "readAct", "()Z"⟩, 5), (⟨"DroveRoads$Parser", "endLine", "(I)Z"⟩, 5), (⟨"DroveRoads", "passDay", "()V"⟩, 12), (⟨"DroveRoads", "drive", "(LDroveRoads$Herd;)V"⟩, 12), (⟨"DroveRoads$Reckoner", "reckon", "([III)I"⟩, 3), (⟨"DroveRoads$Reckoner", "push", "(I)V"⟩, 3), (⟨"DroveRoads$Reckoner", "reckonToken", "(I)V"⟩, 3), (⟨"DroveRoads$Reckoner", "pop", "()I"⟩, 3), (⟨"DroveRoads", "walkOn", "(LDroveRoads$Herd;)V"⟩, 12), (⟨"DroveRoads$Herd", "sellHeads", "(I)I"⟩, 12), (⟨"DroveRoads$Herd", "earn", "(I)V"⟩, 12)]
theorem lw_r2 : ∀ q ∈ lw_privs_2, lw_okq q := List.forall_mem_cons.mpr ⟨lw_p16, List.forall_mem_cons.mpr ⟨lw_p17, List.forall_mem_cons.mpr ⟨lw_p18, List.forall_mem_cons.mpr ⟨lw_p19, List.forall_mem_cons.mpr ⟨lw_p20, List.forall_mem_cons.mpr ⟨lw_p21, List.forall_mem_cons.mpr ⟨lw_p22, List.forall_mem_cons.mpr ⟨lw_p23, List.forall_mem_cons.mpr ⟨lw_p24, List.forall_mem_cons.mpr ⟨lw_p25, List.forall_mem_cons.mpr ⟨lw_p26, List.forall_mem_cons.mpr ⟨lw_p27, List.forall_mem_cons.mpr ⟨lw_p28, List.forall_mem_cons.mpr ⟨lw_p29, List.forall_mem_cons.mpr ⟨lw_p30, List.forall_mem_cons.mpr ⟨lw_p31, fun _ h => absurd h List.not_mem_nil⟩⟩⟩⟩⟩⟩⟩⟩⟩⟩⟩⟩⟩⟩⟩⟩
theorem lw_p32 : lw_okq (⟨"DroveRoads", "findWay", "(II)LDroveRoads$LoneWay;"⟩, 12) := ⟨⟨by decide +kernel, by decide +kernel⟩, List.mem_of_getElem? (i := 20) (by decide +kernel), List.mem_of_getElem? (i := 761) (by decide +kernel), List.mem_of_getElem? (i := 762) (by decide +kernel)⟩
theorem lw_p33 : lw_okq (⟨"DroveRoads$LoneWay", "mayWalk", "(II)Z"⟩, 4) := ⟨⟨by decide +kernel, by decide +kernel⟩, List.mem_of_getElem? (i := 765) (by decide +kernel), List.mem_of_getElem? (i := 790) (by decide +kernel), List.mem_of_getElem? (i := 791) (by decide +kernel)⟩
theorem lw_p34 : lw_okq (⟨"DroveRoads$Passings", "placeByDay", "(I)V"⟩, 8) := ⟨⟨by decide +kernel, by decide +kernel⟩, List.mem_of_getElem? (i := 81) (by decide +kernel), List.mem_of_getElem? (i := 844) (by decide +kernel), List.mem_of_getElem? (i := 845) (by decide +kernel)⟩
theorem lw_p35 : lw_okq (⟨"DroveRoads$Passings", "isKnown", "(II)Z"⟩, 8) := ⟨⟨by decide +kernel, by decide +kernel⟩, List.mem_of_getElem? (i := 81) (by decide +kernel), List.mem_of_getElem? (i := 869) (by decide +kernel), List.mem_of_getElem? (i := 870) (by decide +kernel)⟩
theorem lw_p36 : lw_okq (⟨"DroveRoadsModel", "isStance", "(I)Z"⟩, 67) := ⟨⟨by decide +kernel, by decide +kernel⟩, List.mem_of_getElem? (i := 894) (by decide +kernel), List.mem_of_getElem? (i := 1119) (by decide +kernel), List.mem_of_getElem? (i := 1120) (by decide +kernel)⟩
theorem lw_p37 : lw_okq (⟨"DroveRoadsModel", "fair", "()I"⟩, 67) := ⟨⟨by decide +kernel, by decide +kernel⟩, List.mem_of_getElem? (i := 894) (by decide +kernel), List.mem_of_getElem? (i := 1123) (by decide +kernel), List.mem_of_getElem? (i := 1124) (by decide +kernel)⟩
theorem lw_p38 : lw_okq (⟨"DroveRoadsModel", "knownAt", "(II)I"⟩, 67) := ⟨⟨by decide +kernel, by decide +kernel⟩, List.mem_of_getElem? (i := 894) (by decide +kernel), List.mem_of_getElem? (i := 1136) (by decide +kernel), List.mem_of_getElem? (i := 1137) (by decide +kernel)⟩
theorem lw_p39 : lw_okq (⟨"DroveRoadsModel", "toFair", "(I)I"⟩, 67) := ⟨⟨by decide +kernel, by decide +kernel⟩, List.mem_of_getElem? (i := 894) (by decide +kernel), List.mem_of_getElem? (i := 1140) (by decide +kernel), List.mem_of_getElem? (i := 1141) (by decide +kernel)⟩
theorem lw_p40 : lw_okq (⟨"DroveRoadsModel", "isHerd", "(I)Z"⟩, 67) := ⟨⟨by decide +kernel, by decide +kernel⟩, List.mem_of_getElem? (i := 894) (by decide +kernel), List.mem_of_getElem? (i := 1152) (by decide +kernel), List.mem_of_getElem? (i := 1153) (by decide +kernel)⟩
theorem lw_p41 : lw_okq (⟨"DroveRoadsModel", "four", "(I)V"⟩, 67) := ⟨⟨by decide +kernel, by decide +kernel⟩, List.mem_of_getElem? (i := 894) (by decide +kernel), List.mem_of_getElem? (i := 1164) (by decide +kernel), List.mem_of_getElem? (i := 1165) (by decide +kernel)⟩
theorem lw_p42 : lw_okq (⟨"DroveRoadsModel", "next", "()V"⟩, 67) := ⟨⟨by decide +kernel, by decide +kernel⟩, List.mem_of_getElem? (i := 894) (by decide +kernel), List.mem_of_getElem? (i := 1176) (by decide +kernel), List.mem_of_getElem? (i := 1177) (by decide +kernel)⟩
theorem lw_p43 : lw_okq (⟨"DroveRoadsModel", "here", "(I)I"⟩, 67) := ⟨⟨by decide +kernel, by decide +kernel⟩, List.mem_of_getElem? (i := 894) (by decide +kernel), List.mem_of_getElem? (i := 1180) (by decide +kernel), List.mem_of_getElem? (i := 1181) (by decide +kernel)⟩
theorem lw_p44 : lw_okq (⟨"DroveRoadsModel", "isWord", "(J)Z"⟩, 67) := ⟨⟨by decide +kernel, by decide +kernel⟩, List.mem_of_getElem? (i := 894) (by decide +kernel), List.mem_of_getElem? (i := 1194) (by decide +kernel), List.mem_of_getElem? (i := 1195) (by decide +kernel)⟩
theorem lw_p45 : lw_okq (⟨"DroveRoadsModel", "wrong", "(I)V"⟩, 67) := ⟨⟨by decide +kernel, by decide +kernel⟩, List.mem_of_getElem? (i := 894) (by decide +kernel), List.mem_of_getElem? (i := 1198) (by decide +kernel), List.mem_of_getElem? (i := 1199) (by decide +kernel)⟩
theorem lw_p46 : lw_okq (⟨"DroveRoadsModel", "readE", "()V"⟩, 67) := ⟨⟨by decide +kernel, by decide +kernel⟩, List.mem_of_getElem? (i := 894) (by decide +kernel), List.mem_of_getElem? (i := 1202) (by decide +kernel), List.mem_of_getElem? (i := 1203) (by decide +kernel)⟩
theorem lw_p47 : lw_okq (⟨"DroveRoadsModel", "isOpen", "()Z"⟩, 67) := ⟨⟨by decide +kernel, by decide +kernel⟩, List.mem_of_getElem? (i := 894) (by decide +kernel), List.mem_of_getElem? (i := 1207) (by decide +kernel), List.mem_of_getElem? (i := 1208) (by decide +kernel)⟩
def lw_privs_3 : List (MethodName × Nat) := [(⟨"DroveRoads", "findWay", "(II)LDroveRoads$LoneWay;"⟩, 12), (⟨"DroveRoads$LoneWay", "mayWalk", "(II)Z"⟩, 4), (⟨"DroveRoads$Passings", "placeByDay", "(I)V"⟩, 8), (⟨"DroveRoads$Passings", "isKnown", "(II)Z"⟩, 8), (⟨"DroveRoadsModel", "isStance", "(I)Z"⟩, 67), (⟨"DroveRoadsModel", "fair", "()I"⟩, 67), (⟨"DroveRoadsModel", "knownAt", "(II)I"⟩, 67), (⟨"DroveRoadsModel", "toFair", "(I)I"⟩, 67), (⟨"DroveRoadsModel", "isHerd", "(I)Z"⟩, 67), (⟨"DroveRoadsModel", "four", "(I)V"⟩, 67), (⟨"DroveRoadsModel", "next", "()V"⟩, 67), (⟨"DroveRoadsModel", "here", "(I)I"⟩, 67), (⟨"DroveRoadsModel", "isWord", "(J)Z"⟩, 67), (⟨"DroveRoadsModel", "wrong", "(I)V"⟩, 67), (⟨"DroveRoadsModel", "readE", "()V"⟩, 67), (⟨"DroveRoadsModel", "isOpen", "()Z"⟩, 67)]
theorem lw_r3 : ∀ q ∈ lw_privs_3, lw_okq q := List.forall_mem_cons.mpr ⟨lw_p32, List.forall_mem_cons.mpr ⟨lw_p33, List.forall_mem_cons.mpr ⟨lw_p34, List.forall_mem_cons.mpr ⟨lw_p35, List.forall_mem_cons.mpr ⟨lw_p36, List.forall_mem_cons.mpr ⟨lw_p37, List.forall_mem_cons.mpr ⟨lw_p38, List.forall_mem_cons.mpr ⟨lw_p39, List.forall_mem_cons.mpr ⟨lw_p40, List.forall_mem_cons.mpr ⟨lw_p41, List.forall_mem_cons.mpr ⟨lw_p42, List.forall_mem_cons.mpr ⟨lw_p43, List.forall_mem_cons.mpr ⟨lw_p44, List.forall_mem_cons.mpr ⟨lw_p45, List.forall_mem_cons.mpr ⟨lw_p46, List.forall_mem_cons.mpr ⟨lw_p47, fun _ h => absurd h List.not_mem_nil⟩⟩⟩⟩⟩⟩⟩⟩⟩⟩⟩⟩⟩⟩⟩⟩
theorem lw_p48 : lw_okq (⟨"DroveRoadsModel", "sign", "()I"⟩, 67) := ⟨⟨by decide +kernel, by decide +kernel⟩, List.mem_of_getElem? (i := 894) (by decide +kernel), List.mem_of_getElem? (i := 1211) (by decide +kernel), List.mem_of_getElem? (i := 1212) (by decide +kernel)⟩
theorem lw_p49 : lw_okq (⟨"DroveRoadsModel", "settle", "(I)V"⟩, 67) := ⟨⟨by decide +kernel, by decide +kernel⟩, List.mem_of_getElem? (i := 894) (by decide +kernel), List.mem_of_getElem? (i := 1215) (by decide +kernel), List.mem_of_getElem? (i := 1216) (by decide +kernel)⟩
theorem lw_p50 : lw_okq (⟨"DroveRoadsModel", "pop", "()V"⟩, 67) := ⟨⟨by decide +kernel, by decide +kernel⟩, List.mem_of_getElem? (i := 894) (by decide +kernel), List.mem_of_getElem? (i := 1219) (by decide +kernel), List.mem_of_getElem? (i := 1220) (by decide +kernel)⟩
theorem lw_p51 : lw_okq (⟨"DroveRoadsModel", "step", "(II)V"⟩, 67) := ⟨⟨by decide +kernel, by decide +kernel⟩, List.mem_of_getElem? (i := 894) (by decide +kernel), List.mem_of_getElem? (i := 1223) (by decide +kernel), List.mem_of_getElem? (i := 1224) (by decide +kernel)⟩
theorem lw_p52 : lw_okq (⟨"DroveRoadsModel", "hold", "(I)V"⟩, 67) := ⟨⟨by decide +kernel, by decide +kernel⟩, List.mem_of_getElem? (i := 894) (by decide +kernel), List.mem_of_getElem? (i := 1227) (by decide +kernel), List.mem_of_getElem? (i := 1228) (by decide +kernel)⟩
theorem lw_p53 : lw_okq (⟨"DroveRoadsModel", "settleOnes", "(Z)V"⟩, 67) := ⟨⟨by decide +kernel, by decide +kernel⟩, List.mem_of_getElem? (i := 894) (by decide +kernel), List.mem_of_getElem? (i := 1233) (by decide +kernel), List.mem_of_getElem? (i := 1234) (by decide +kernel)⟩
theorem lw_p54 : lw_okq (⟨"DroveRoadsModel", "operand", "(I)I"⟩, 67) := ⟨⟨by decide +kernel, by decide +kernel⟩, List.mem_of_getElem? (i := 894) (by decide +kernel), List.mem_of_getElem? (i := 1237) (by decide +kernel), List.mem_of_getElem? (i := 1238) (by decide +kernel)⟩
theorem lw_p55 : lw_okq (⟨"DroveRoadsModel", "isKey", "()Z"⟩, 67) := ⟨⟨by decide +kernel, by decide +kernel⟩, List.mem_of_getElem? (i := 894) (by decide +kernel), List.mem_of_getElem? (i := 1241) (by decide +kernel), List.mem_of_getElem? (i := 1242) (by decide +kernel)⟩
theorem lw_p56 : lw_okq (⟨"DroveRoadsModel", "named", "()I"⟩, 67) := ⟨⟨by decide +kernel, by decide +kernel⟩, List.mem_of_getElem? (i := 894) (by decide +kernel), List.mem_of_getElem? (i := 1249) (by decide +kernel), List.mem_of_getElem? (i := 1250) (by decide +kernel)⟩
theorem lw_p57 : lw_okq (⟨"DroveRoadsModel", "readAct", "()V"⟩, 67) := ⟨⟨by decide +kernel, by decide +kernel⟩, List.mem_of_getElem? (i := 894) (by decide +kernel), List.mem_of_getElem? (i := 1262) (by decide +kernel), List.mem_of_getElem? (i := 1263) (by decide +kernel)⟩
theorem lw_p58 : lw_okq (⟨"DroveRoadsModel", "go", "(I)V"⟩, 67) := ⟨⟨by decide +kernel, by decide +kernel⟩, List.mem_of_getElem? (i := 894) (by decide +kernel), List.mem_of_getElem? (i := 1274) (by decide +kernel), List.mem_of_getElem? (i := 1275) (by decide +kernel)⟩
theorem lw_p59 : lw_okq (⟨"DroveRoadsModel", "holds", "(II)Z"⟩, 67) := ⟨⟨by decide +kernel, by decide +kernel⟩, List.mem_of_getElem? (i := 894) (by decide +kernel), List.mem_of_getElem? (i := 1278) (by decide +kernel), List.mem_of_getElem? (i := 1279) (by decide +kernel)⟩
theorem lw_p60 : lw_okq (⟨"DroveRoadsModel", "earn", "(IIII)V"⟩, 67) := ⟨⟨by decide +kernel, by decide +kernel⟩, List.mem_of_getElem? (i := 894) (by decide +kernel), List.mem_of_getElem? (i := 1282) (by decide +kernel), List.mem_of_getElem? (i := 1283) (by decide +kernel)⟩
theorem lw_p61 : lw_okq (⟨"DroveRoadsModel", "rest", "(I)V"⟩, 67) := ⟨⟨by decide +kernel, by decide +kernel⟩, List.mem_of_getElem? (i := 894) (by decide +kernel), List.mem_of_getElem? (i := 1288) (by decide +kernel), List.mem_of_getElem? (i := 1289) (by decide +kernel)⟩
theorem lw_p62 : lw_okq (⟨"DroveRoadsModel", "walk", "(I)V"⟩, 67) := ⟨⟨by decide +kernel, by decide +kernel⟩, List.mem_of_getElem? (i := 894) (by decide +kernel), List.mem_of_getElem? (i := 1292) (by decide +kernel), List.mem_of_getElem? (i := 1293) (by decide +kernel)⟩
theorem lw_p63 : lw_okq (⟨"DroveRoadsModel", "eat", "(IZ)V"⟩, 67) := ⟨⟨by decide +kernel, by decide +kernel⟩, List.mem_of_getElem? (i := 894) (by decide +kernel), List.mem_of_getElem? (i := 1296) (by decide +kernel), List.mem_of_getElem? (i := 1297) (by decide +kernel)⟩
def lw_privs_4 : List (MethodName × Nat) := [(⟨"DroveRoadsModel", "sign", "()I"⟩, 67), (⟨"DroveRoadsModel", "settle", "(I)V"⟩, 67), (⟨"DroveRoadsModel", "pop", "()V"⟩, 67), (⟨"DroveRoadsModel", "step", "(II)V"⟩, 67), (⟨"DroveRoadsModel", "hold", "(I)V"⟩, 67), (⟨"DroveRoadsModel", "settleOnes", "(Z)V"⟩, 67), (⟨"DroveRoadsModel", "operand", "(I)I"⟩, 67), (⟨"DroveRoadsModel", "isKey", "()Z"⟩, 67), (⟨"DroveRoadsModel", "named", "()I"⟩, 67), (⟨"DroveRoadsModel", "readAct", "()V"⟩, 67), (⟨"DroveRoadsModel", "go", "(I)V"⟩, 67), (⟨"DroveRoadsModel", "holds", "(II)Z"⟩, 67), (⟨"DroveRoadsModel", "earn", "(IIII)V"⟩, 67), (⟨"DroveRoadsModel", "rest", "(I)V"⟩, 67), (⟨"DroveRoadsModel", "walk", "(I)V"⟩, 67), (⟨"DroveRoadsModel", "eat", "(IZ)V"⟩, 67)]
theorem lw_r4 : ∀ q ∈ lw_privs_4, lw_okq q := List.forall_mem_cons.mpr ⟨lw_p48, List.forall_mem_cons.mpr ⟨lw_p49, List.forall_mem_cons.mpr ⟨lw_p50, List.forall_mem_cons.mpr ⟨lw_p51, List.forall_mem_cons.mpr ⟨lw_p52, List.forall_mem_cons.mpr ⟨lw_p53, List.forall_mem_cons.mpr ⟨lw_p54, List.forall_mem_cons.mpr ⟨lw_p55, List.forall_mem_cons.mpr ⟨lw_p56, List.forall_mem_cons.mpr ⟨lw_p57, List.forall_mem_cons.mpr ⟨lw_p58, List.forall_mem_cons.mpr ⟨lw_p59, List.forall_mem_cons.mpr ⟨lw_p60, List.forall_mem_cons.mpr ⟨lw_p61, List.forall_mem_cons.mpr ⟨lw_p62, List.forall_mem_cons.mpr ⟨lw_p63, fun _ h => absurd h List.not_mem_nil⟩⟩⟩⟩⟩⟩⟩⟩⟩⟩⟩⟩⟩⟩⟩⟩
theorem lw_p64 : lw_okq (⟨"DroveRoadsModel", "fill", "(II)Z"⟩, 67) := ⟨⟨by decide +kernel, by decide +kernel⟩, List.mem_of_getElem? (i := 894) (by decide +kernel), List.mem_of_getElem? (i := 1304) (by decide +kernel), List.mem_of_getElem? (i := 1305) (by decide +kernel)⟩
theorem lw_p65 : lw_okq (⟨"DroveRoadsModel", "isBill", "(I)Z"⟩, 67) := ⟨⟨by decide +kernel, by decide +kernel⟩, List.mem_of_getElem? (i := 894) (by decide +kernel), List.mem_of_getElem? (i := 1332) (by decide +kernel), List.mem_of_getElem? (i := 1333) (by decide +kernel)⟩
def lw_privs_5 : List (MethodName × Nat) := [(⟨"DroveRoadsModel", "fill", "(II)Z"⟩, 67), (⟨"DroveRoadsModel", "isBill", "(I)Z"⟩, 67)]
theorem lw_r5 : ∀ q ∈ lw_privs_5, lw_okq q := List.forall_mem_cons.mpr ⟨lw_p64, List.forall_mem_cons.mpr ⟨lw_p65, fun _ h => absurd h List.not_mem_nil⟩⟩
def lw_privs : List (MethodName × Nat) := lw_privs_1 ++ (lw_privs_2 ++ (lw_privs_3 ++ (lw_privs_4 ++ (lw_privs_5))))
def lw_tbl : List Cond := k2_sels lw_privs ++ tables_1
theorem lw_privs_ok : ∀ q ∈ lw_privs, lw_okq q := by
  show ∀ q ∈ lw_privs_1 ++ (lw_privs_2 ++ (lw_privs_3 ++ (lw_privs_4 ++ (lw_privs_5)))), lw_okq q
  exact List.forall_mem_append.mpr ⟨lw_r1, List.forall_mem_append.mpr ⟨lw_r2, List.forall_mem_append.mpr ⟨lw_r3, List.forall_mem_append.mpr ⟨lw_r4, lw_r5⟩⟩⟩⟩
def RX0 : String := "DroveRoads$Bills"
def TX0 : u_T := fun k => match k with
  | 0 => ("DroveRoads$Bills", "count", "I", false)
  | 1 => ("DroveRoads$Bills", "passings", "LDroveRoads$Passings;", true)
  | 2 => ("DroveRoads$Bills", "amounts", "[I", true)
  | 3 => ("DroveRoads$Bills", "hands", "[I", true)
  | 4 => ("DroveRoads$Bills", "dueOn", "[I", true)
  | 5 => ("DroveRoads$Bills", "paidOn", "[I", true)
  | _ => ("DroveRoads$Bills", "paidTo", "[I", true)
def tyX0 : Nat → FieldType := fun k => match k with
  | 0 => .int
  | 1 => .object "DroveRoads$Passings"
  | 2 => .array .int
  | 3 => .array .int
  | 4 => .array .int
  | 5 => .array .int
  | _ => .array .int
theorem nmX0 : ∀ a, a < 7 → ∀ b, b < 7 → a ≠ b → (TX0 a).2.1 ≠ (TX0 b).2.1 := by decide +kernel
theorem tyX0_ok : ∀ k, k < 7 → parseFieldDescriptor (TX0 k).2.2.1 = some (tyX0 k) := by decide +kernel
abbrev cX0_init : ByteArray := prog_2_method_1_code
def yX0_init : MethodName := ⟨RX0, "<init>", "()V"⟩
abbrev cX0_has : ByteArray := prog_2_method_2_code
def yX0_has : MethodName := ⟨RX0, "has", "(I)Z"⟩
abbrev cX0_make : ByteArray := prog_2_method_3_code
def yX0_make : MethodName := ⟨RX0, "make", "(III)I"⟩
abbrev cX0_holderKnown : ByteArray := prog_2_method_4_code
def yX0_holderKnown : MethodName := ⟨RX0, "holderKnown", "(III)I"⟩
abbrev cX0_settle : ByteArray := prog_2_method_5_code
def yX0_settle : MethodName := ⟨RX0, "settle", "(II)I"⟩
abbrev cX0_tell : ByteArray := prog_2_method_6_code
def yX0_tell : MethodName := ⟨RX0, "tell", "(II)I"⟩
def RX1 : String := "DroveRoads$Herd"
def TX1 : u_T := fun k => match k with
  | 0 => ("DroveRoads$Herd", "need", "I", true)
  | 1 => ("DroveRoads$Herd", "start", "I", true)
  | 2 => ("DroveRoads$Herd", "heads", "I", false)
  | 3 => ("DroveRoads$Herd", "weight", "I", false)
  | 4 => ("DroveRoads$Herd", "sore", "I", false)
  | 5 => ("DroveRoads$Herd", "stance", "I", false)
  | 6 => ("DroveRoads$Herd", "orders", "LDroveRoads$Orders;", false)
  | 7 => ("DroveRoads$Herd", "coins", "I", false)
  | 8 => ("DroveRoads$Herd", "left", "I", false)
  | 9 => ("DroveRoads$Herd", "sold", "I", false)
  | 10 => ("DroveRoads$Herd", "dead", "I", false)
  | _ => ("DroveRoads$Herd", "ate", "I", false)
def tyX1 : Nat → FieldType := fun k => match k with
  | 0 => .int
  | 1 => .int
  | 2 => .int
  | 3 => .int
  | 4 => .int
  | 5 => .int
  | 6 => .object "DroveRoads$Orders"
  | 7 => .int
  | 8 => .int
  | 9 => .int
  | 10 => .int
  | _ => .int
theorem nmX1 : ∀ a, a < 12 → ∀ b, b < 12 → a ≠ b → (TX1 a).2.1 ≠ (TX1 b).2.1 := by decide +kernel
theorem tyX1_ok : ∀ k, k < 12 → parseFieldDescriptor (TX1 k).2.2.1 = some (tyX1 k) := by decide +kernel
abbrev cX1_init : ByteArray := prog_3_method_1_code
def yX1_init : MethodName := ⟨RX1, "<init>", "(IIII)V"⟩
abbrev cX1_want : ByteArray := prog_3_method_2_code
def yX1_want : MethodName := ⟨RX1, "want", "()I"⟩
abbrev cX1_sellOnTheWay : ByteArray := prog_3_method_3_code
def yX1_sellOnTheWay : MethodName := ⟨RX1, "sellOnTheWay", "(II)V"⟩
abbrev cX1_sellAtFair : ByteArray := prog_3_method_4_code
def yX1_sellAtFair : MethodName := ⟨RX1, "sellAtFair", "(I)V"⟩
abbrev cX1_sellHeads : ByteArray := prog_3_method_5_code
def yX1_sellHeads : MethodName := ⟨RX1, "sellHeads", "(I)I"⟩
abbrev cX1_earn : ByteArray := prog_3_method_6_code
def yX1_earn : MethodName := ⟨RX1, "earn", "(I)V"⟩
abbrev cX1_walk : ByteArray := prog_3_method_7_code
def yX1_walk : MethodName := ⟨RX1, "walk", "(I)I"⟩
abbrev cX1_eat : ByteArray := prog_3_method_8_code
def yX1_eat : MethodName := ⟨RX1, "eat", "(IZ)V"⟩
abbrev cX1_tell : ByteArray := prog_3_method_9_code
def yX1_tell : MethodName := ⟨RX1, "tell", "(I)I"⟩
def RX2 : String := "DroveRoads$Letters"
def TX2 : u_T := fun k => match k with
  | 0 => ("DroveRoads$Letters", "count", "I", false)
  | 1 => ("DroveRoads$Letters", "prices", "[I", true)
  | _ => ("DroveRoads$Letters", "sentOn", "[I", true)
def tyX2 : Nat → FieldType := fun k => match k with
  | 0 => .int
  | 1 => .array .int
  | _ => .array .int
theorem nmX2 : ∀ a, a < 3 → ∀ b, b < 3 → a ≠ b → (TX2 a).2.1 ≠ (TX2 b).2.1 := by decide +kernel
theorem tyX2_ok : ∀ k, k < 3 → parseFieldDescriptor (TX2 k).2.2.1 = some (tyX2 k) := by decide +kernel
abbrev cX2_init : ByteArray := prog_4_method_1_code
def yX2_init : MethodName := ⟨RX2, "<init>", "()V"⟩
abbrev cX2_send : ByteArray := prog_4_method_2_code
def yX2_send : MethodName := ⟨RX2, "send", "(II)I"⟩
abbrev cX2_priceKnown : ByteArray := prog_4_method_3_code
def yX2_priceKnown : MethodName := ⟨RX2, "priceKnown", "(II)I"⟩
def RX3 : String := "DroveRoads$Lexer"
def TX3 : u_T := fun k => match k with
  | 0 => ("DroveRoads$Lexer", "token", "I", false)
  | 1 => ("DroveRoads$Lexer", "place", "I", false)
  | 2 => ("DroveRoads$Lexer", "number", "I", false)
  | 3 => ("DroveRoads$Lexer", "text", "[B", true)
  | 4 => ("DroveRoads$Lexer", "length", "I", true)
  | _ => ("DroveRoads$Lexer", "next", "I", false)
def tyX3 : Nat → FieldType := fun k => match k with
  | 0 => .int
  | 1 => .int
  | 2 => .int
  | 3 => .array .byte
  | 4 => .int
  | _ => .int
theorem nmX3 : ∀ a, a < 6 → ∀ b, b < 6 → a ≠ b → (TX3 a).2.1 ≠ (TX3 b).2.1 := by decide +kernel
theorem tyX3_ok : ∀ k, k < 6 → parseFieldDescriptor (TX3 k).2.2.1 = some (tyX3 k) := by decide +kernel
abbrev cX3_init : ByteArray := prog_5_method_1_code
def yX3_init : MethodName := ⟨RX3, "<init>", "([BI)V"⟩
abbrev cX3_advance : ByteArray := prog_5_method_2_code
def yX3_advance : MethodName := ⟨RX3, "advance", "()V"⟩
abbrev cX3_scanWord : ByteArray := prog_5_method_3_code
def yX3_scanWord : MethodName := ⟨RX3, "scanWord", "()V"⟩
abbrev cX3_scanNumber : ByteArray := prog_5_method_4_code
def yX3_scanNumber : MethodName := ⟨RX3, "scanNumber", "()V"⟩
abbrev cX3_scanSign : ByteArray := prog_5_method_5_code
def yX3_scanSign : MethodName := ⟨RX3, "scanSign", "(C)V"⟩
abbrev cX3_wordToken : ByteArray := prog_5_method_6_code
def yX3_wordToken : MethodName := ⟨RX3, "wordToken", "()I"⟩
abbrev cX3_letterAt : ByteArray := prog_5_method_7_code
def yX3_letterAt : MethodName := ⟨RX3, "letterAt", "(I)I"⟩
abbrev cX3_byteAt : ByteArray := prog_5_method_8_code
def yX3_byteAt : MethodName := ⟨RX3, "byteAt", "(I)I"⟩
abbrev cX3_isBlank : ByteArray := prog_5_method_9_code
def yX3_isBlank : MethodName := ⟨RX3, "isBlank", "(I)Z"⟩
abbrev cX3_isLetter : ByteArray := prog_5_method_10_code
def yX3_isLetter : MethodName := ⟨RX3, "isLetter", "(I)Z"⟩
abbrev cX3_isDigit : ByteArray := prog_5_method_11_code
def yX3_isDigit : MethodName := ⟨RX3, "isDigit", "(I)Z"⟩
def RX4 : String := "DroveRoads$LoneWay"
def TX4 : u_T := fun k => match k with
  | 0 => ("DroveRoads$LoneWay", "days", "I", true)
  | 1 => ("DroveRoads$LoneWay", "road", "LDroveRoads$Road;", true)
  | 2 => ("DroveRoads$LoneWay", "startStance", "I", true)
  | _ => ("DroveRoads$LoneWay", "startSore", "I", true)
def tyX4 : Nat → FieldType := fun k => match k with
  | 0 => .int
  | 1 => .object "DroveRoads$Road"
  | 2 => .int
  | _ => .int
theorem nmX4 : ∀ a, a < 4 → ∀ b, b < 4 → a ≠ b → (TX4 a).2.1 ≠ (TX4 b).2.1 := by decide +kernel
theorem tyX4_ok : ∀ k, k < 4 → parseFieldDescriptor (TX4 k).2.2.1 = some (tyX4 k) := by decide +kernel
abbrev cX4_init : ByteArray := prog_6_method_1_code
def yX4_init : MethodName := ⟨RX4, "<init>", "(LDroveRoads$Road;III)V"⟩
abbrev cX4_comesToFair : ByteArray := prog_6_method_2_code
def yX4_comesToFair : MethodName := ⟨RX4, "comesToFair", "()Z"⟩
abbrev cX4_bestGain : ByteArray := prog_6_method_3_code
def yX4_bestGain : MethodName := ⟨RX4, "bestGain", "()I"⟩
abbrev cX4_bestAct : ByteArray := prog_6_method_4_code
def yX4_bestAct : MethodName := ⟨RX4, "bestAct", "(I)I"⟩
abbrev cX4_mayWalk : ByteArray := prog_6_method_5_code
def yX4_mayWalk : MethodName := ⟨RX4, "mayWalk", "(II)Z"⟩
abbrev cX4_rested : ByteArray := prog_6_method_6_code
def yX4_rested : MethodName := ⟨RX4, "rested", "(I)I"⟩
def RX5 : String := "DroveRoads$Orders"
def TX5 : u_T := fun k => match k with
  | 0 => ("DroveRoads$Orders", "cells", "[I", true)
  | 1 => ("DroveRoads$Orders", "cellsEnd", "[I", true)
  | 2 => ("DroveRoads$Orders", "acts", "[I", true)
  | 3 => ("DroveRoads$Orders", "lines", "I", false)
  | _ => ("DroveRoads$Orders", "cellCount", "I", false)
def tyX5 : Nat → FieldType := fun k => match k with
  | 0 => .array .int
  | 1 => .array .int
  | 2 => .array .int
  | 3 => .int
  | _ => .int
theorem nmX5 : ∀ a, a < 5 → ∀ b, b < 5 → a ≠ b → (TX5 a).2.1 ≠ (TX5 b).2.1 := by decide +kernel
theorem tyX5_ok : ∀ k, k < 5 → parseFieldDescriptor (TX5 k).2.2.1 = some (tyX5 k) := by decide +kernel
abbrev cX5_init : ByteArray := prog_7_method_1_code
def yX5_init : MethodName := ⟨RX5, "<init>", "()V"⟩
abbrev cX5_clear : ByteArray := prog_7_method_2_code
def yX5_clear : MethodName := ⟨RX5, "clear", "()V"⟩
abbrev cX5_addCell : ByteArray := prog_7_method_3_code
def yX5_addCell : MethodName := ⟨RX5, "addCell", "(I)V"⟩
abbrev cX5_addLine : ByteArray := prog_7_method_4_code
def yX5_addLine : MethodName := ⟨RX5, "addLine", "(I)V"⟩
def RX6 : String := "DroveRoads$Parser"
def TX6 : u_T := fun k => match k with
  | 0 => ("DroveRoads$Parser", "fault", "I", false)
  | 1 => ("DroveRoads$Parser", "faultPlace", "I", false)
  | 2 => ("DroveRoads$Parser", "lexer", "LDroveRoads$Lexer;", true)
  | 3 => ("DroveRoads$Parser", "written", "LDroveRoads$Orders;", true)
  | _ => ("DroveRoads$Parser", "operands", "I", false)
def tyX6 : Nat → FieldType := fun k => match k with
  | 0 => .int
  | 1 => .int
  | 2 => .object "DroveRoads$Lexer"
  | 3 => .object "DroveRoads$Orders"
  | _ => .int
theorem nmX6 : ∀ a, a < 5 → ∀ b, b < 5 → a ≠ b → (TX6 a).2.1 ≠ (TX6 b).2.1 := by decide +kernel
theorem tyX6_ok : ∀ k, k < 5 → parseFieldDescriptor (TX6 k).2.2.1 = some (tyX6 k) := by decide +kernel
abbrev cX6_init : ByteArray := prog_8_method_1_code
def yX6_init : MethodName := ⟨RX6, "<init>", "([BILDroveRoads$Orders;)V"⟩
abbrev cX6_read : ByteArray := prog_8_method_2_code
def yX6_read : MethodName := ⟨RX6, "read", "()Z"⟩
abbrev cX6_readLine : ByteArray := prog_8_method_3_code
def yX6_readLine : MethodName := ⟨RX6, "readLine", "()Z"⟩
abbrev cX6_readAct : ByteArray := prog_8_method_4_code
def yX6_readAct : MethodName := ⟨RX6, "readAct", "()Z"⟩
abbrev cX6_endLine : ByteArray := prog_8_method_5_code
def yX6_endLine : MethodName := ⟨RX6, "endLine", "(I)Z"⟩
abbrev cX6_readE : ByteArray := prog_8_method_6_code
def yX6_readE : MethodName := ⟨RX6, "readE", "(I)Z"⟩
abbrev cX6_readBoth : ByteArray := prog_8_method_7_code
def yX6_readBoth : MethodName := ⟨RX6, "readBoth", "(I)Z"⟩
abbrev cX6_readOne : ByteArray := prog_8_method_8_code
def yX6_readOne : MethodName := ⟨RX6, "readOne", "(I)Z"⟩
abbrev cX6_readSum : ByteArray := prog_8_method_9_code
def yX6_readSum : MethodName := ⟨RX6, "readSum", "(I)Z"⟩
abbrev cX6_readTerm : ByteArray := prog_8_method_10_code
def yX6_readTerm : MethodName := ⟨RX6, "readTerm", "(I)Z"⟩
abbrev cX6_readOperand : ByteArray := prog_8_method_11_code
def yX6_readOperand : MethodName := ⟨RX6, "readOperand", "()Z"⟩
abbrev cX6_take : ByteArray := prog_8_method_12_code
def yX6_take : MethodName := ⟨RX6, "take", "(I)Z"⟩
abbrev cX6_write : ByteArray := prog_8_method_13_code
def yX6_write : MethodName := ⟨RX6, "write", "(I)Z"⟩
abbrev cX6_refuse : ByteArray := prog_8_method_14_code
def yX6_refuse : MethodName := ⟨RX6, "refuse", "()Z"⟩
abbrev cX6_refuseFor : ByteArray := prog_8_method_15_code
def yX6_refuseFor : MethodName := ⟨RX6, "refuseFor", "(I)Z"⟩
def RX7 : String := "DroveRoads$Passings"
def TX7 : u_T := fun k => match k with
  | 0 => ("DroveRoads$Passings", "count", "I", false)
  | 1 => ("DroveRoads$Passings", "billOf", "[I", true)
  | 2 => ("DroveRoads$Passings", "fromHand", "[I", true)
  | 3 => ("DroveRoads$Passings", "toHand", "[I", true)
  | 4 => ("DroveRoads$Passings", "passedOn", "[I", true)
  | 5 => ("DroveRoads$Passings", "toldOn", "[I", true)
  | 6 => ("DroveRoads$Passings", "untoldOn", "[I", true)
  | _ => ("DroveRoads$Passings", "byDay", "[I", true)
def tyX7 : Nat → FieldType := fun k => match k with
  | 0 => .int
  | 1 => .array .int
  | 2 => .array .int
  | 3 => .array .int
  | 4 => .array .int
  | 5 => .array .int
  | 6 => .array .int
  | _ => .array .int
theorem nmX7 : ∀ a, a < 8 → ∀ b, b < 8 → a ≠ b → (TX7 a).2.1 ≠ (TX7 b).2.1 := by decide +kernel
theorem tyX7_ok : ∀ k, k < 8 → parseFieldDescriptor (TX7 k).2.2.1 = some (tyX7 k) := by decide +kernel
abbrev cX7_init : ByteArray := prog_9_method_1_code
def yX7_init : MethodName := ⟨RX7, "<init>", "()V"⟩
abbrev cX7_isHand : ByteArray := prog_9_method_2_code
def yX7_isHand : MethodName := ⟨RX7, "isHand", "(I)Z"⟩
abbrev cX7_add : ByteArray := prog_9_method_3_code
def yX7_add : MethodName := ⟨RX7, "add", "(IIIII)I"⟩
abbrev cX7_placeByDay : ByteArray := prog_9_method_4_code
def yX7_placeByDay : MethodName := ⟨RX7, "placeByDay", "(I)V"⟩
abbrev cX7_takeBack : ByteArray := prog_9_method_5_code
def yX7_takeBack : MethodName := ⟨RX7, "takeBack", "(II)Z"⟩
abbrev cX7_follow : ByteArray := prog_9_method_6_code
def yX7_follow : MethodName := ⟨RX7, "follow", "(IIII)I"⟩
abbrev cX7_isKnown : ByteArray := prog_9_method_7_code
def yX7_isKnown : MethodName := ⟨RX7, "isKnown", "(II)Z"⟩
def RX8 : String := "DroveRoads$Reckoner"
def TX8 : u_T := fun k => match k with
  | 0 => ("DroveRoads$Reckoner", "nameValues", "[I", true)
  | 1 => ("DroveRoads$Reckoner", "stack", "[I", true)
  | _ => ("DroveRoads$Reckoner", "top", "I", false)
def tyX8 : Nat → FieldType := fun k => match k with
  | 0 => .array .int
  | 1 => .array .int
  | _ => .int
theorem nmX8 : ∀ a, a < 3 → ∀ b, b < 3 → a ≠ b → (TX8 a).2.1 ≠ (TX8 b).2.1 := by decide +kernel
theorem tyX8_ok : ∀ k, k < 3 → parseFieldDescriptor (TX8 k).2.2.1 = some (tyX8 k) := by decide +kernel
abbrev cX8_init : ByteArray := prog_10_method_1_code
def yX8_init : MethodName := ⟨RX8, "<init>", "()V"⟩
abbrev cX8_learn : ByteArray := prog_10_method_2_code
def yX8_learn : MethodName := ⟨RX8, "learn", "(LDroveRoads$Herd;LDroveRoads$Road;II)V"⟩
abbrev cX8_choose : ByteArray := prog_10_method_3_code
def yX8_choose : MethodName := ⟨RX8, "choose", "(LDroveRoads$Orders;)I"⟩
abbrev cX8_reckon : ByteArray := prog_10_method_4_code
def yX8_reckon : MethodName := ⟨RX8, "reckon", "([III)I"⟩
abbrev cX8_reckonToken : ByteArray := prog_10_method_5_code
def yX8_reckonToken : MethodName := ⟨RX8, "reckonToken", "(I)V"⟩
abbrev cX8_join : ByteArray := prog_10_method_6_code
def yX8_join : MethodName := ⟨RX8, "join", "(III)I"⟩
abbrev cX8_push : ByteArray := prog_10_method_7_code
def yX8_push : MethodName := ⟨RX8, "push", "(I)V"⟩
abbrev cX8_pop : ByteArray := prog_10_method_8_code
def yX8_pop : MethodName := ⟨RX8, "pop", "()I"⟩
def RX9 : String := "DroveRoads$Road"
def TX9 : u_T := fun k => match k with
  | 0 => ("DroveRoads$Road", "stances", "I", false)
  | 1 => ("DroveRoads$Road", "stageMiles", "[I", true)
  | 2 => ("DroveRoads$Road", "toFair", "[I", true)
  | 3 => ("DroveRoads$Road", "grassNow", "[I", true)
  | 4 => ("DroveRoads$Road", "grassGrows", "[I", true)
  | 5 => ("DroveRoads$Road", "grassMost", "[I", true)
  | _ => ("DroveRoads$Road", "leftBefore", "[I", true)
def tyX9 : Nat → FieldType := fun k => match k with
  | 0 => .int
  | 1 => .array .int
  | 2 => .array .int
  | 3 => .array .int
  | 4 => .array .int
  | 5 => .array .int
  | _ => .array .int
theorem nmX9 : ∀ a, a < 7 → ∀ b, b < 7 → a ≠ b → (TX9 a).2.1 ≠ (TX9 b).2.1 := by decide +kernel
theorem tyX9_ok : ∀ k, k < 7 → parseFieldDescriptor (TX9 k).2.2.1 = some (tyX9 k) := by decide +kernel
abbrev cX9_init : ByteArray := prog_11_method_1_code
def yX9_init : MethodName := ⟨RX9, "<init>", "()V"⟩
abbrev cX9_canBeMiles : ByteArray := prog_11_method_2_code
def yX9_canBeMiles : MethodName := ⟨RX9, "canBeMiles", "(I)Z"⟩
abbrev cX9_has : ByteArray := prog_11_method_3_code
def yX9_has : MethodName := ⟨RX9, "has", "(I)Z"⟩
abbrev cX9_fair : ByteArray := prog_11_method_4_code
def yX9_fair : MethodName := ⟨RX9, "fair", "()I"⟩
abbrev cX9_lengthen : ByteArray := prog_11_method_5_code
def yX9_lengthen : MethodName := ⟨RX9, "lengthen", "(I)I"⟩
abbrev cX9_setFirstMiles : ByteArray := prog_11_method_6_code
def yX9_setFirstMiles : MethodName := ⟨RX9, "setFirstMiles", "(I)V"⟩
abbrev cX9_measure : ByteArray := prog_11_method_7_code
def yX9_measure : MethodName := ⟨RX9, "measure", "()V"⟩
abbrev cX9_milesOfStage : ByteArray := prog_11_method_8_code
def yX9_milesOfStage : MethodName := ⟨RX9, "milesOfStage", "(I)I"⟩
abbrev cX9_milesToFair : ByteArray := prog_11_method_9_code
def yX9_milesToFair : MethodName := ⟨RX9, "milesToFair", "(I)I"⟩
abbrev cX9_grassAt : ByteArray := prog_11_method_10_code
def yX9_grassAt : MethodName := ⟨RX9, "grassAt", "(I)I"⟩
abbrev cX9_sow : ByteArray := prog_11_method_11_code
def yX9_sow : MethodName := ⟨RX9, "sow", "(IIII)Z"⟩
abbrev cX9_grow : ByteArray := prog_11_method_12_code
def yX9_grow : MethodName := ⟨RX9, "grow", "()V"⟩
abbrev cX9_graze : ByteArray := prog_11_method_13_code
def yX9_graze : MethodName := ⟨RX9, "graze", "(II)I"⟩
abbrev cX9_noteLeft : ByteArray := prog_11_method_14_code
def yX9_noteLeft : MethodName := ⟨RX9, "noteLeft", "(II)V"⟩
abbrev cX9_tell : ByteArray := prog_11_method_15_code
def yX9_tell : MethodName := ⟨RX9, "tell", "(II)I"⟩
def RX10 : String := "DroveRoads"
def TX10 : u_T := fun k => match k with
  | 0 => ("DroveRoads", "road", "LDroveRoads$Road;", true)
  | 1 => ("DroveRoads", "letters", "LDroveRoads$Letters;", true)
  | 2 => ("DroveRoads", "bills", "LDroveRoads$Bills;", true)
  | 3 => ("DroveRoads", "herds", "[LDroveRoads$Herd;", true)
  | 4 => ("DroveRoads", "tape", "[B", true)
  | 5 => ("DroveRoads", "reckoner", "LDroveRoads$Reckoner;", true)
  | 6 => ("DroveRoads", "spareOrders", "LDroveRoads$Orders;", false)
  | 7 => ("DroveRoads", "herdCount", "I", false)
  | 8 => ("DroveRoads", "tapeBytes", "I", false)
  | 9 => ("DroveRoads", "latestFault", "I", false)
  | 10 => ("DroveRoads", "latestFaultPlace", "I", false)
  | _ => ("DroveRoads", "today", "I", false)
def tyX10 : Nat → FieldType := fun k => match k with
  | 0 => .object "DroveRoads$Road"
  | 1 => .object "DroveRoads$Letters"
  | 2 => .object "DroveRoads$Bills"
  | 3 => .array (.object "DroveRoads$Herd")
  | 4 => .array .byte
  | 5 => .object "DroveRoads$Reckoner"
  | 6 => .object "DroveRoads$Orders"
  | 7 => .int
  | 8 => .int
  | 9 => .int
  | 10 => .int
  | _ => .int
theorem nmX10 : ∀ a, a < 12 → ∀ b, b < 12 → a ≠ b → (TX10 a).2.1 ≠ (TX10 b).2.1 := by decide +kernel
theorem tyX10_ok : ∀ k, k < 12 → parseFieldDescriptor (TX10 k).2.2.1 = some (tyX10 k) := by decide +kernel
abbrev cX10_init : ByteArray := prog_1_method_1_code
def yX10_init : MethodName := ⟨RX10, "<init>", "()V"⟩
abbrev cX10_stance : ByteArray := prog_1_method_2_code
def yX10_stance : MethodName := ⟨RX10, "stance", "(I)I"⟩
abbrev cX10_first : ByteArray := prog_1_method_3_code
def yX10_first : MethodName := ⟨RX10, "first", "(I)Z"⟩
abbrev cX10_grass : ByteArray := prog_1_method_4_code
def yX10_grass : MethodName := ⟨RX10, "grass", "(IIII)Z"⟩
abbrev cX10_herd : ByteArray := prog_1_method_5_code
def yX10_herd : MethodName := ⟨RX10, "herd", "(IIII)I"⟩
abbrev cX10_letter : ByteArray := prog_1_method_6_code
def yX10_letter : MethodName := ⟨RX10, "letter", "(I)I"⟩
abbrev cX10_known : ByteArray := prog_1_method_7_code
def yX10_known : MethodName := ⟨RX10, "known", "(I)I"⟩
abbrev cX10_feed : ByteArray := prog_1_method_8_code
def yX10_feed : MethodName := ⟨RX10, "feed", "(IIIII)I"⟩
abbrev cX10_end : ByteArray := prog_1_method_9_code
def yX10_end : MethodName := ⟨RX10, "end", "(I)I"⟩
abbrev cX10_orders : ByteArray := prog_1_method_10_code
def yX10_orders : MethodName := ⟨RX10, "orders", "(I)I"⟩
abbrev cX10_fault : ByteArray := prog_1_method_11_code
def yX10_fault : MethodName := ⟨RX10, "fault", "(I)I"⟩
abbrev cX10_days : ByteArray := prog_1_method_12_code
def yX10_days : MethodName := ⟨RX10, "days", "(I)I"⟩
abbrev cX10_of : ByteArray := prog_1_method_13_code
def yX10_of : MethodName := ⟨RX10, "of", "(II)I"⟩
abbrev cX10_at : ByteArray := prog_1_method_14_code
def yX10_at : MethodName := ⟨RX10, "at", "(II)I"⟩
abbrev cX10_gain : ByteArray := prog_1_method_15_code
def yX10_gain : MethodName := ⟨RX10, "gain", "(II)I"⟩
abbrev cX10_length : ByteArray := prog_1_method_16_code
def yX10_length : MethodName := ⟨RX10, "length", "(II)I"⟩
abbrev cX10_act : ByteArray := prog_1_method_17_code
def yX10_act : MethodName := ⟨RX10, "act", "(III)I"⟩
abbrev cX10_bill : ByteArray := prog_1_method_18_code
def yX10_bill : MethodName := ⟨RX10, "bill", "(III)I"⟩
abbrev cX10_pass : ByteArray := prog_1_method_19_code
def yX10_pass : MethodName := ⟨RX10, "pass", "(IIII)I"⟩
abbrev cX10_untell : ByteArray := prog_1_method_20_code
def yX10_untell : MethodName := ⟨RX10, "untell", "(I)Z"⟩
abbrev cX10_holder : ByteArray := prog_1_method_21_code
def yX10_holder : MethodName := ⟨RX10, "holder", "(III)I"⟩
abbrev cX10_pay : ByteArray := prog_1_method_22_code
def yX10_pay : MethodName := ⟨RX10, "pay", "(I)I"⟩
abbrev cX10_paid : ByteArray := prog_1_method_23_code
def yX10_paid : MethodName := ⟨RX10, "paid", "(II)I"⟩
abbrev cX10_about : ByteArray := prog_1_method_24_code
def yX10_about : MethodName := ⟨RX10, "about", "(I)I"⟩
abbrev cX10_within : ByteArray := prog_1_method_25_code
def yX10_within : MethodName := ⟨RX10, "within", "(III)Z"⟩
abbrev cX10_findHerd : ByteArray := prog_1_method_26_code
def yX10_findHerd : MethodName := ⟨RX10, "findHerd", "(I)LDroveRoads$Herd;"⟩
abbrev cX10_priceKnownAt : ByteArray := prog_1_method_27_code
def yX10_priceKnownAt : MethodName := ⟨RX10, "priceKnownAt", "(I)I"⟩
abbrev cX10_feedFour : ByteArray := prog_1_method_28_code
def yX10_feedFour : MethodName := ⟨RX10, "feedFour", "(I)V"⟩
abbrev cX10_findWay : ByteArray := prog_1_method_29_code
def yX10_findWay : MethodName := ⟨RX10, "findWay", "(II)LDroveRoads$LoneWay;"⟩
abbrev cX10_passDay : ByteArray := prog_1_method_30_code
def yX10_passDay : MethodName := ⟨RX10, "passDay", "()V"⟩
abbrev cX10_drive : ByteArray := prog_1_method_31_code
def yX10_drive : MethodName := ⟨RX10, "drive", "(LDroveRoads$Herd;)V"⟩
abbrev cX10_walkOn : ByteArray := prog_1_method_32_code
def yX10_walkOn : MethodName := ⟨RX10, "walkOn", "(LDroveRoads$Herd;)V"⟩
def RX11 : String := "DroveRoadsModel"
def TX11 : u_T := fun k => match k with
  | 0 => ("DroveRoadsModel", "today", "I", false)
  | 1 => ("DroveRoadsModel", "stances", "I", false)
  | 2 => ("DroveRoadsModel", "miles", "[I", true)
  | 3 => ("DroveRoadsModel", "grass", "[I", true)
  | 4 => ("DroveRoadsModel", "grows", "[I", true)
  | 5 => ("DroveRoadsModel", "most", "[I", true)
  | 6 => ("DroveRoadsModel", "footsore", "[I", true)
  | 7 => ("DroveRoadsModel", "letters", "I", false)
  | 8 => ("DroveRoadsModel", "priceOf", "[I", true)
  | 9 => ("DroveRoadsModel", "sent", "[I", true)
  | 10 => ("DroveRoadsModel", "herds", "I", false)
  | 11 => ("DroveRoadsModel", "heads", "[I", true)
  | 12 => ("DroveRoadsModel", "weight", "[I", true)
  | 13 => ("DroveRoadsModel", "need", "[I", true)
  | 14 => ("DroveRoadsModel", "start", "[I", true)
  | 15 => ("DroveRoadsModel", "sore", "[I", true)
  | 16 => ("DroveRoadsModel", "stance", "[I", true)
  | 17 => ("DroveRoadsModel", "coins", "[I", true)
  | 18 => ("DroveRoadsModel", "left", "[I", true)
  | 19 => ("DroveRoadsModel", "sold", "[I", true)
  | 20 => ("DroveRoadsModel", "dead", "[I", true)
  | 21 => ("DroveRoadsModel", "eaten", "[I", true)
  | 22 => ("DroveRoadsModel", "steps", "[I", true)
  | 23 => ("DroveRoadsModel", "numbers", "[I", true)
  | 24 => ("DroveRoadsModel", "lineAt", "[I", true)
  | 25 => ("DroveRoadsModel", "does", "[I", true)
  | 26 => ("DroveRoadsModel", "sells", "[I", true)
  | 27 => ("DroveRoadsModel", "lines", "[I", true)
  | 28 => ("DroveRoadsModel", "newSteps", "[I", true)
  | 29 => ("DroveRoadsModel", "newNumbers", "[I", true)
  | 30 => ("DroveRoadsModel", "newAt", "[I", true)
  | 31 => ("DroveRoadsModel", "newDoes", "[I", true)
  | 32 => ("DroveRoadsModel", "newSells", "[I", true)
  | 33 => ("DroveRoadsModel", "newLines", "I", false)
  | 34 => ("DroveRoadsModel", "newMany", "I", false)
  | 35 => ("DroveRoadsModel", "values", "I", false)
  | 36 => ("DroveRoadsModel", "tape", "[I", true)
  | 37 => ("DroveRoadsModel", "taped", "I", false)
  | 38 => ("DroveRoadsModel", "fault", "I", false)
  | 39 => ("DroveRoadsModel", "faultPlace", "I", false)
  | 40 => ("DroveRoadsModel", "at", "I", false)
  | 41 => ("DroveRoadsModel", "size", "I", false)
  | 42 => ("DroveRoadsModel", "sort", "I", false)
  | 43 => ("DroveRoadsModel", "place", "I", false)
  | 44 => ("DroveRoadsModel", "number", "I", false)
  | 45 => ("DroveRoadsModel", "word", "J", false)
  | 46 => ("DroveRoadsModel", "waits", "[I", true)
  | 47 => ("DroveRoadsModel", "waiting", "I", false)
  | 48 => ("DroveRoadsModel", "deep", "I", false)
  | 49 => ("DroveRoadsModel", "pile", "[I", true)
  | 50 => ("DroveRoadsModel", "names", "[I", true)
  | 51 => ("DroveRoadsModel", "gains", "[I", true)
  | 52 => ("DroveRoadsModel", "lasts", "[I", true)
  | 53 => ("DroveRoadsModel", "walks", "[Z", true)
  | 54 => ("DroveRoadsModel", "bills", "I", false)
  | 55 => ("DroveRoadsModel", "passings", "I", false)
  | 56 => ("DroveRoadsModel", "amount", "[I", true)
  | 57 => ("DroveRoadsModel", "madeTo", "[I", true)
  | 58 => ("DroveRoadsModel", "due", "[I", true)
  | 59 => ("DroveRoadsModel", "paidOn", "[I", true)
  | 60 => ("DroveRoadsModel", "paidTo", "[I", true)
  | 61 => ("DroveRoadsModel", "passOf", "[I", true)
  | 62 => ("DroveRoadsModel", "passFrom", "[I", true)
  | 63 => ("DroveRoadsModel", "passTo", "[I", true)
  | 64 => ("DroveRoadsModel", "passDay", "[I", true)
  | 65 => ("DroveRoadsModel", "toldOn", "[I", true)
  | _ => ("DroveRoadsModel", "untoldOn", "[I", true)
def tyX11 : Nat → FieldType := fun k => match k with
  | 0 => .int
  | 1 => .int
  | 2 => .array .int
  | 3 => .array .int
  | 4 => .array .int
  | 5 => .array .int
  | 6 => .array .int
  | 7 => .int
  | 8 => .array .int
  | 9 => .array .int
  | 10 => .int
  | 11 => .array .int
  | 12 => .array .int
  | 13 => .array .int
  | 14 => .array .int
  | 15 => .array .int
  | 16 => .array .int
  | 17 => .array .int
  | 18 => .array .int
  | 19 => .array .int
  | 20 => .array .int
  | 21 => .array .int
  | 22 => .array .int
  | 23 => .array .int
  | 24 => .array .int
  | 25 => .array .int
  | 26 => .array .int
  | 27 => .array .int
  | 28 => .array .int
  | 29 => .array .int
  | 30 => .array .int
  | 31 => .array .int
  | 32 => .array .int
  | 33 => .int
  | 34 => .int
  | 35 => .int
  | 36 => .array .int
  | 37 => .int
  | 38 => .int
  | 39 => .int
  | 40 => .int
  | 41 => .int
  | 42 => .int
  | 43 => .int
  | 44 => .int
  | 45 => .long
  | 46 => .array .int
  | 47 => .int
  | 48 => .int
  | 49 => .array .int
  | 50 => .array .int
  | 51 => .array .int
  | 52 => .array .int
  | 53 => .array .boolean
  | 54 => .int
  | 55 => .int
  | 56 => .array .int
  | 57 => .array .int
  | 58 => .array .int
  | 59 => .array .int
  | 60 => .array .int
  | 61 => .array .int
  | 62 => .array .int
  | 63 => .array .int
  | 64 => .array .int
  | 65 => .array .int
  | _ => .array .int
theorem nmX11 : ∀ a, a < 67 → ∀ b, b < 67 → a ≠ b → (TX11 a).2.1 ≠ (TX11 b).2.1 := by decide +kernel
theorem tyX11_ok : ∀ k, k < 67 → parseFieldDescriptor (TX11 k).2.2.1 = some (tyX11 k) := by decide +kernel
abbrev cX11_init : ByteArray := prog_13_method_1_code
def yX11_init : MethodName := ⟨RX11, "<init>", "()V"⟩
abbrev cX11_isStance : ByteArray := prog_13_method_2_code
def yX11_isStance : MethodName := ⟨RX11, "isStance", "(I)Z"⟩
abbrev cX11_fair : ByteArray := prog_13_method_3_code
def yX11_fair : MethodName := ⟨RX11, "fair", "()I"⟩
abbrev cX11_areMiles : ByteArray := prog_13_method_4_code
def yX11_areMiles : MethodName := ⟨RX11, "areMiles", "(I)Z"⟩
abbrev cX11_stance : ByteArray := prog_13_method_5_code
def yX11_stance : MethodName := ⟨RX11, "stance", "(I)I"⟩
abbrev cX11_first : ByteArray := prog_13_method_6_code
def yX11_first : MethodName := ⟨RX11, "first", "(I)Z"⟩
abbrev cX11_grass : ByteArray := prog_13_method_7_code
def yX11_grass : MethodName := ⟨RX11, "grass", "(IIII)Z"⟩
abbrev cX11_toFair : ByteArray := prog_13_method_8_code
def yX11_toFair : MethodName := ⟨RX11, "toFair", "(I)I"⟩
abbrev cX11_letter : ByteArray := prog_13_method_9_code
def yX11_letter : MethodName := ⟨RX11, "letter", "(I)I"⟩
abbrev cX11_knownAt : ByteArray := prog_13_method_10_code
def yX11_knownAt : MethodName := ⟨RX11, "knownAt", "(II)I"⟩
abbrev cX11_known : ByteArray := prog_13_method_11_code
def yX11_known : MethodName := ⟨RX11, "known", "(I)I"⟩
abbrev cX11_isHerd : ByteArray := prog_13_method_12_code
def yX11_isHerd : MethodName := ⟨RX11, "isHerd", "(I)Z"⟩
abbrev cX11_herd : ByteArray := prog_13_method_13_code
def yX11_herd : MethodName := ⟨RX11, "herd", "(IIII)I"⟩
abbrev cX11_of : ByteArray := prog_13_method_14_code
def yX11_of : MethodName := ⟨RX11, "of", "(II)I"⟩
abbrev cX11_at : ByteArray := prog_13_method_15_code
def yX11_at : MethodName := ⟨RX11, "at", "(II)I"⟩
abbrev cX11_feed : ByteArray := prog_13_method_16_code
def yX11_feed : MethodName := ⟨RX11, "feed", "(IIIII)I"⟩
abbrev cX11_four : ByteArray := prog_13_method_17_code
def yX11_four : MethodName := ⟨RX11, "four", "(I)V"⟩
abbrev cX11_end : ByteArray := prog_13_method_18_code
def yX11_end : MethodName := ⟨RX11, "end", "(I)I"⟩
abbrev cX11_here : ByteArray := prog_13_method_19_code
def yX11_here : MethodName := ⟨RX11, "here", "(I)I"⟩
abbrev cX11_isLetter : ByteArray := prog_13_method_20_code
def yX11_isLetter : MethodName := ⟨RX11, "isLetter", "(I)Z"⟩
abbrev cX11_isDigit : ByteArray := prog_13_method_21_code
def yX11_isDigit : MethodName := ⟨RX11, "isDigit", "(I)Z"⟩
abbrev cX11_isSign : ByteArray := prog_13_method_22_code
def yX11_isSign : MethodName := ⟨RX11, "isSign", "(I)Z"⟩
abbrev cX11_next : ByteArray := prog_13_method_23_code
def yX11_next : MethodName := ⟨RX11, "next", "()V"⟩
abbrev cX11_wrong : ByteArray := prog_13_method_24_code
def yX11_wrong : MethodName := ⟨RX11, "wrong", "(I)V"⟩
abbrev cX11_isWord : ByteArray := prog_13_method_25_code
def yX11_isWord : MethodName := ⟨RX11, "isWord", "(J)Z"⟩
abbrev cX11_isKey : ByteArray := prog_13_method_26_code
def yX11_isKey : MethodName := ⟨RX11, "isKey", "()Z"⟩
abbrev cX11_named : ByteArray := prog_13_method_27_code
def yX11_named : MethodName := ⟨RX11, "named", "()I"⟩
abbrev cX11_step : ByteArray := prog_13_method_28_code
def yX11_step : MethodName := ⟨RX11, "step", "(II)V"⟩
abbrev cX11_hold : ByteArray := prog_13_method_29_code
def yX11_hold : MethodName := ⟨RX11, "hold", "(I)V"⟩
abbrev cX11_pop : ByteArray := prog_13_method_30_code
def yX11_pop : MethodName := ⟨RX11, "pop", "()V"⟩
abbrev cX11_settle : ByteArray := prog_13_method_31_code
def yX11_settle : MethodName := ⟨RX11, "settle", "(I)V"⟩
abbrev cX11_isOpen : ByteArray := prog_13_method_32_code
def yX11_isOpen : MethodName := ⟨RX11, "isOpen", "()Z"⟩
abbrev cX11_readE : ByteArray := prog_13_method_33_code
def yX11_readE : MethodName := ⟨RX11, "readE", "()V"⟩
abbrev cX11_operand : ByteArray := prog_13_method_34_code
def yX11_operand : MethodName := ⟨RX11, "operand", "(I)I"⟩
abbrev cX11_sign : ByteArray := prog_13_method_35_code
def yX11_sign : MethodName := ⟨RX11, "sign", "()I"⟩
abbrev cX11_settleOnes : ByteArray := prog_13_method_36_code
def yX11_settleOnes : MethodName := ⟨RX11, "settleOnes", "(Z)V"⟩
abbrev cX11_readAct : ByteArray := prog_13_method_37_code
def yX11_readAct : MethodName := ⟨RX11, "readAct", "()V"⟩
abbrev cX11_orders : ByteArray := prog_13_method_38_code
def yX11_orders : MethodName := ⟨RX11, "orders", "(I)I"⟩
abbrev cX11_fault : ByteArray := prog_13_method_39_code
def yX11_fault : MethodName := ⟨RX11, "fault", "(I)I"⟩
abbrev cX11_holds : ByteArray := prog_13_method_40_code
def yX11_holds : MethodName := ⟨RX11, "holds", "(II)Z"⟩
abbrev cX11_earn : ByteArray := prog_13_method_41_code
def yX11_earn : MethodName := ⟨RX11, "earn", "(IIII)V"⟩
abbrev cX11_rest : ByteArray := prog_13_method_42_code
def yX11_rest : MethodName := ⟨RX11, "rest", "(I)V"⟩
abbrev cX11_walk : ByteArray := prog_13_method_43_code
def yX11_walk : MethodName := ⟨RX11, "walk", "(I)V"⟩
abbrev cX11_eat : ByteArray := prog_13_method_44_code
def yX11_eat : MethodName := ⟨RX11, "eat", "(IZ)V"⟩
abbrev cX11_go : ByteArray := prog_13_method_45_code
def yX11_go : MethodName := ⟨RX11, "go", "(I)V"⟩
abbrev cX11_days : ByteArray := prog_13_method_46_code
def yX11_days : MethodName := ⟨RX11, "days", "(I)I"⟩
abbrev cX11_cell : ByteArray := prog_13_method_47_code
def yX11_cell : MethodName := ⟨RX11, "cell", "(III)I"⟩
abbrev cX11_fill : ByteArray := prog_13_method_48_code
def yX11_fill : MethodName := ⟨RX11, "fill", "(II)Z"⟩
abbrev cX11_gain : ByteArray := prog_13_method_49_code
def yX11_gain : MethodName := ⟨RX11, "gain", "(II)I"⟩
abbrev cX11_length : ByteArray := prog_13_method_50_code
def yX11_length : MethodName := ⟨RX11, "length", "(II)I"⟩
abbrev cX11_act : ByteArray := prog_13_method_51_code
def yX11_act : MethodName := ⟨RX11, "act", "(III)I"⟩
abbrev cX11_isHand : ByteArray := prog_13_method_52_code
def yX11_isHand : MethodName := ⟨RX11, "isHand", "(I)Z"⟩
abbrev cX11_isBill : ByteArray := prog_13_method_53_code
def yX11_isBill : MethodName := ⟨RX11, "isBill", "(I)Z"⟩
abbrev cX11_bill : ByteArray := prog_13_method_54_code
def yX11_bill : MethodName := ⟨RX11, "bill", "(III)I"⟩
abbrev cX11_pass : ByteArray := prog_13_method_55_code
def yX11_pass : MethodName := ⟨RX11, "pass", "(IIII)I"⟩
abbrev cX11_untell : ByteArray := prog_13_method_56_code
def yX11_untell : MethodName := ⟨RX11, "untell", "(I)Z"⟩
abbrev cX11_holder : ByteArray := prog_13_method_57_code
def yX11_holder : MethodName := ⟨RX11, "holder", "(III)I"⟩
abbrev cX11_pay : ByteArray := prog_13_method_58_code
def yX11_pay : MethodName := ⟨RX11, "pay", "(I)I"⟩
abbrev cX11_paid : ByteArray := prog_13_method_59_code
def yX11_paid : MethodName := ⟨RX11, "paid", "(II)I"⟩
abbrev cX11_about : ByteArray := prog_13_method_60_code
def yX11_about : MethodName := ⟨RX11, "about", "(I)I"⟩
def RJ11 : String := "java/lang/Character"
def TJ11 : u_T := fun k => match k with
  | _ => ("", "", "", false)
def tyJ11 : Nat → FieldType := fun k => match k with
  | _ => .int
theorem nmJ11 : ∀ a, a < 0 → ∀ b, b < 0 → a ≠ b → (TJ11 a).2.1 ≠ (TJ11 b).2.1 := by decide +kernel
theorem tyJ11_ok : ∀ k, k < 0 → parseFieldDescriptor (TJ11 k).2.2.1 = some (tyJ11 k) := by decide +kernel
abbrev cJ11_isValidCodePoint_9a6ad : ByteArray := prog_14_method_11_code
def yJ11_isValidCodePoint_9a6ad : MethodName := ⟨RJ11, "isValidCodePoint", "(I)Z"⟩
abbrev cJ11_highSurrogate_5068e : ByteArray := prog_14_method_28_code
def yJ11_highSurrogate_5068e : MethodName := ⟨RJ11, "highSurrogate", "(I)C"⟩
abbrev cJ11_lowSurrogate_5068e : ByteArray := prog_14_method_29_code
def yJ11_lowSurrogate_5068e : MethodName := ⟨RJ11, "lowSurrogate", "(I)C"⟩
def RJ9 : String := "java/lang/Math"
def TJ9 : u_T := fun k => match k with
  | _ => ("", "", "", false)
def tyJ9 : Nat → FieldType := fun k => match k with
  | _ => .int
theorem nmJ9 : ∀ a, a < 0 → ∀ b, b < 0 → a ≠ b → (TJ9 a).2.1 ≠ (TJ9 b).2.1 := by decide +kernel
theorem tyJ9_ok : ∀ k, k < 0 → parseFieldDescriptor (TJ9 k).2.2.1 = some (tyJ9 k) := by decide +kernel
abbrev cJ9_max_7cf53 : ByteArray := prog_15_method_65_code
def yJ9_max_7cf53 : MethodName := ⟨RJ9, "max", "(II)I"⟩
abbrev cJ9_min_7cf53 : ByteArray := prog_15_method_69_code
def yJ9_min_7cf53 : MethodName := ⟨RJ9, "min", "(II)I"⟩
def RJ0 : String := "java/lang/String"
def TJ0 : u_T := fun k => match k with
  | _ => ("", "", "", false)
def tyJ0 : Nat → FieldType := fun k => match k with
  | _ => .int
theorem nmJ0 : ∀ a, a < 0 → ∀ b, b < 0 → a ≠ b → (TJ0 a).2.1 ≠ (TJ0 b).2.1 := by decide +kernel
theorem tyJ0_ok : ∀ k, k < 0 → parseFieldDescriptor (TJ0 k).2.2.1 = some (tyJ0 k) := by decide +kernel
abbrev cJ0_length_8abf5 : ByteArray := prog_16_method_54_code
def yJ0_length_8abf5 : MethodName := ⟨RJ0, "length", "()I"⟩
abbrev cJ0_charAt_5068e : ByteArray := prog_16_method_56_code
def yJ0_charAt_5068e : MethodName := ⟨RJ0, "charAt", "(I)C"⟩
abbrev cJ0_indexOf_0f7a4 : ByteArray := prog_16_method_79_code
def yJ0_indexOf_0f7a4 : MethodName := ⟨RJ0, "indexOf", "(I)I"⟩
abbrev cJ0_indexOf_7cf53 : ByteArray := prog_16_method_80_code
def yJ0_indexOf_7cf53 : MethodName := ⟨RJ0, "indexOf", "(II)I"⟩
abbrev cJ0_coder_7d493 : ByteArray := prog_16_method_152_code
def yJ0_coder_7d493 : MethodName := ⟨RJ0, "coder", "()B"⟩
abbrev cJ0_isLatin1_aae02 : ByteArray := prog_16_method_154_code
def yJ0_isLatin1_aae02 : MethodName := ⟨RJ0, "isLatin1", "()Z"⟩
abbrev cJ0_checkIndex_df160 : ByteArray := prog_16_method_155_code
def yJ0_checkIndex_df160 : MethodName := ⟨RJ0, "checkIndex", "(II)V"⟩
abbrev cJ0_checkBoundsBeginEnd_23922 : ByteArray := prog_16_method_158_code
def yJ0_checkBoundsBeginEnd_23922 : MethodName := ⟨RJ0, "checkBoundsBeginEnd", "(III)V"⟩
def RJ1 : String := "java/lang/StringLatin1"
def TJ1 : u_T := fun k => match k with
  | _ => ("", "", "", false)
def tyJ1 : Nat → FieldType := fun k => match k with
  | _ => .int
theorem nmJ1 : ∀ a, a < 0 → ∀ b, b < 0 → a ≠ b → (TJ1 a).2.1 ≠ (TJ1 b).2.1 := by decide +kernel
theorem tyJ1_ok : ∀ k, k < 0 → parseFieldDescriptor (TJ1 k).2.2.1 = some (tyJ1 k) := by decide +kernel
abbrev cJ1_charAt_3b067 : ByteArray := prog_17_method_2_code
def yJ1_charAt_3b067 : MethodName := ⟨RJ1, "charAt", "([BI)C"⟩
abbrev cJ1_canEncode_9a6ad : ByteArray := prog_17_method_4_code
def yJ1_canEncode_9a6ad : MethodName := ⟨RJ1, "canEncode", "(I)Z"⟩
abbrev cJ1_indexOf_4cfef : ByteArray := prog_17_method_22_code
def yJ1_indexOf_4cfef : MethodName := ⟨RJ1, "indexOf", "([BIII)I"⟩
abbrev cJ1_indexOfChar_4cfef : ByteArray := prog_17_method_23_code
def yJ1_indexOfChar_4cfef : MethodName := ⟨RJ1, "indexOfChar", "([BIII)I"⟩
def RJ2 : String := "java/lang/StringUTF16"
def TJ2 : u_T := fun k => match k with
  | _ => ("", "", "", false)
def tyJ2 : Nat → FieldType := fun k => match k with
  | _ => .int
theorem nmJ2 : ∀ a, a < 0 → ∀ b, b < 0 → a ≠ b → (TJ2 a).2.1 ≠ (TJ2 b).2.1 := by decide +kernel
theorem tyJ2_ok : ∀ k, k < 0 → parseFieldDescriptor (TJ2 k).2.2.1 = some (tyJ2 k) := by decide +kernel
abbrev cJ2_getChar_3b067 : ByteArray := prog_18_method_5_code
def yJ2_getChar_3b067 : MethodName := ⟨RJ2, "getChar", "([BI)C"⟩
abbrev cJ2_length_9d52b : ByteArray := prog_18_method_6_code
def yJ2_length_9d52b : MethodName := ⟨RJ2, "length", "([B)I"⟩
abbrev cJ2_indexOf_4cfef : ByteArray := prog_18_method_40_code
def yJ2_indexOf_4cfef : MethodName := ⟨RJ2, "indexOf", "([BIII)I"⟩
abbrev cJ2_indexOfChar_4cfef : ByteArray := prog_18_method_47_code
def yJ2_indexOfChar_4cfef : MethodName := ⟨RJ2, "indexOfChar", "([BIII)I"⟩
abbrev cJ2_indexOfCharUnsafe_4cfef : ByteArray := prog_18_method_48_code
def yJ2_indexOfCharUnsafe_4cfef : MethodName := ⟨RJ2, "indexOfCharUnsafe", "([BIII)I"⟩
abbrev cJ2_indexOfSupplementary_4cfef : ByteArray := prog_18_method_49_code
def yJ2_indexOfSupplementary_4cfef : MethodName := ⟨RJ2, "indexOfSupplementary", "([BIII)I"⟩
abbrev cJ2_charAt_3b067 : ByteArray := prog_18_method_83_code
def yJ2_charAt_3b067 : MethodName := ⟨RJ2, "charAt", "([BI)C"⟩
abbrev cJ2_checkIndex_2214a : ByteArray := prog_18_method_91_code
def yJ2_checkIndex_2214a : MethodName := ⟨RJ2, "checkIndex", "(I[B)V"⟩
abbrev cJ2_checkBoundsBeginEnd_d044e : ByteArray := prog_18_method_93_code
def yJ2_checkBoundsBeginEnd_d044e : MethodName := ⟨RJ2, "checkBoundsBeginEnd", "(II[B)V"⟩
def RJ3 : String := "jdk/internal/util/Preconditions"
def TJ3 : u_T := fun k => match k with
  | _ => ("", "", "", false)
def tyJ3 : Nat → FieldType := fun k => match k with
  | _ => .int
theorem nmJ3 : ∀ a, a < 0 → ∀ b, b < 0 → a ≠ b → (TJ3 a).2.1 ≠ (TJ3 b).2.1 := by decide +kernel
theorem tyJ3_ok : ∀ k, k < 0 → parseFieldDescriptor (TJ3 k).2.2.1 = some (tyJ3 k) := by decide +kernel
abbrev cJ3_checkIndex_8e157 : ByteArray := prog_19_method_11_code
def yJ3_checkIndex_8e157 : MethodName := ⟨RJ3, "checkIndex", "(IILjava/util/function/BiFunction;)I"⟩
abbrev cJ3_checkFromToIndex_8c36e : ByteArray := prog_19_method_12_code
def yJ3_checkFromToIndex_8c36e : MethodName := ⟨RJ3, "checkFromToIndex", "(IIILjava/util/function/BiFunction;)I"⟩
def RL : String := "DroveRoadsLaw"
abbrev cL_law : ByteArray := code
def yL_law : MethodName := ⟨RL, "law", "([I)Z"⟩
end
section
theorem dX0_init_0 : decode cX0_init 0 = .ok (.aload_n 0, 1) := by decide +kernel
theorem dX0_init_1 : decode cX0_init 1 = .ok (.invokespecial 3, 3) := by decide +kernel
theorem dX0_init_4 : decode cX0_init 4 = .ok (.aload_n 0, 1) := by decide +kernel
theorem dX0_init_5 : decode cX0_init 5 = .ok (.iconst 0, 1) := by decide +kernel
theorem dX0_init_6 : decode cX0_init 6 = .ok (.putfield 9, 3) := by decide +kernel
theorem dX0_init_9 : decode cX0_init 9 = .ok (.aload_n 0, 1) := by decide +kernel
theorem dX0_init_10 : decode cX0_init 10 = .ok (.new 15, 3) := by decide +kernel
theorem dX0_init_13 : decode cX0_init 13 = .ok (.dup, 1) := by decide +kernel
theorem dX0_init_14 : decode cX0_init 14 = .ok (.invokespecial 17, 3) := by decide +kernel
theorem dX0_init_17 : decode cX0_init 17 = .ok (.putfield 18, 3) := by decide +kernel
theorem dX0_init_20 : decode cX0_init 20 = .ok (.aload_n 0, 1) := by decide +kernel
theorem dX0_init_21 : decode cX0_init 21 = .ok (.bipush 20, 2) := by decide +kernel
theorem dX0_init_23 : decode cX0_init 23 = .ok (.newarray .int, 2) := by decide +kernel
theorem dX0_init_25 : decode cX0_init 25 = .ok (.putfield 22, 3) := by decide +kernel
theorem dX0_init_28 : decode cX0_init 28 = .ok (.aload_n 0, 1) := by decide +kernel
theorem dX0_init_29 : decode cX0_init 29 = .ok (.bipush 20, 2) := by decide +kernel
theorem dX0_init_31 : decode cX0_init 31 = .ok (.newarray .int, 2) := by decide +kernel
theorem dX0_init_33 : decode cX0_init 33 = .ok (.putfield 26, 3) := by decide +kernel
theorem dX0_init_36 : decode cX0_init 36 = .ok (.aload_n 0, 1) := by decide +kernel
theorem dX0_init_37 : decode cX0_init 37 = .ok (.bipush 20, 2) := by decide +kernel
theorem dX0_init_39 : decode cX0_init 39 = .ok (.newarray .int, 2) := by decide +kernel
theorem dX0_init_41 : decode cX0_init 41 = .ok (.putfield 29, 3) := by decide +kernel
theorem dX0_init_44 : decode cX0_init 44 = .ok (.aload_n 0, 1) := by decide +kernel
theorem dX0_init_45 : decode cX0_init 45 = .ok (.bipush 20, 2) := by decide +kernel
theorem dX0_init_47 : decode cX0_init 47 = .ok (.newarray .int, 2) := by decide +kernel
theorem dX0_init_49 : decode cX0_init 49 = .ok (.putfield 32, 3) := by decide +kernel
theorem dX0_init_52 : decode cX0_init 52 = .ok (.aload_n 0, 1) := by decide +kernel
theorem dX0_init_53 : decode cX0_init 53 = .ok (.bipush 20, 2) := by decide +kernel
theorem dX0_init_55 : decode cX0_init 55 = .ok (.newarray .int, 2) := by decide +kernel
theorem dX0_init_57 : decode cX0_init 57 = .ok (.putfield 35, 3) := by decide +kernel
theorem dX0_init_60 : decode cX0_init 60 = .ok (.return_, 1) := by decide +kernel
theorem dX0_has_0 : decode cX0_has 0 = .ok (.iload_n 1, 1) := by decide +kernel
theorem dX0_has_1 : decode cX0_has 1 = .ok (.ifCond .lt 15, 3) := by decide +kernel
theorem dX0_has_4 : decode cX0_has 4 = .ok (.iload_n 1, 1) := by decide +kernel
theorem dX0_has_5 : decode cX0_has 5 = .ok (.aload_n 0, 1) := by decide +kernel
theorem dX0_has_6 : decode cX0_has 6 = .ok (.getfield 9, 3) := by decide +kernel
theorem dX0_has_9 : decode cX0_has 9 = .ok (.if_icmp .ge 7, 3) := by decide +kernel
theorem dX0_has_12 : decode cX0_has 12 = .ok (.iconst 1, 1) := by decide +kernel
theorem dX0_has_13 : decode cX0_has 13 = .ok (.goto 4, 3) := by decide +kernel
theorem dX0_has_16 : decode cX0_has 16 = .ok (.iconst 0, 1) := by decide +kernel
theorem dX0_has_17 : decode cX0_has 17 = .ok (.ireturn, 1) := by decide +kernel
theorem dX0_make_0 : decode cX0_make 0 = .ok (.iload_n 1, 1) := by decide +kernel
theorem dX0_make_1 : decode cX0_make 1 = .ok (.iconst 1, 1) := by decide +kernel
theorem dX0_make_2 : decode cX0_make 2 = .ok (.ldc 38, 2) := by decide +kernel
theorem dX0_make_4 : decode cX0_make 4 = .ok (.invokestatic 39, 3) := by decide +kernel
theorem dX0_make_7 : decode cX0_make 7 = .ok (.ifCond .eq 24, 3) := by decide +kernel
theorem dX0_make_10 : decode cX0_make 10 = .ok (.iload_n 2, 1) := by decide +kernel
theorem dX0_make_11 : decode cX0_make 11 = .ok (.invokestatic 43, 3) := by decide +kernel
theorem dX0_make_14 : decode cX0_make 14 = .ok (.ifCond .eq 17, 3) := by decide +kernel
theorem dX0_make_17 : decode cX0_make 17 = .ok (.iload_n 3, 1) := by decide +kernel
theorem dX0_make_18 : decode cX0_make 18 = .ok (.iconst 0, 1) := by decide +kernel
theorem dX0_make_19 : decode cX0_make 19 = .ok (.ldc 47, 2) := by decide +kernel
theorem dX0_make_21 : decode cX0_make 21 = .ok (.invokestatic 39, 3) := by decide +kernel
theorem dX0_make_24 : decode cX0_make 24 = .ok (.ifCond .eq 7, 3) := by decide +kernel
theorem dX0_make_27 : decode cX0_make 27 = .ok (.iconst 1, 1) := by decide +kernel
theorem dX0_make_28 : decode cX0_make 28 = .ok (.goto 4, 3) := by decide +kernel
theorem dX0_make_31 : decode cX0_make 31 = .ok (.iconst 0, 1) := by decide +kernel
theorem dX0_make_32 : decode cX0_make 32 = .ok (.istore 4, 2) := by decide +kernel
theorem dX0_make_34 : decode cX0_make 34 = .ok (.iload 4, 2) := by decide +kernel
theorem dX0_make_36 : decode cX0_make 36 = .ok (.ifCond .eq 12, 3) := by decide +kernel
theorem dX0_make_39 : decode cX0_make 39 = .ok (.aload_n 0, 1) := by decide +kernel
theorem dX0_make_40 : decode cX0_make 40 = .ok (.getfield 9, 3) := by decide +kernel
theorem dX0_make_43 : decode cX0_make 43 = .ok (.bipush 20, 2) := by decide +kernel
theorem dX0_make_45 : decode cX0_make 45 = .ok (.if_icmp .lt 5, 3) := by decide +kernel
theorem dX0_make_48 : decode cX0_make 48 = .ok (.iconst (-1), 1) := by decide +kernel
theorem dX0_make_49 : decode cX0_make 49 = .ok (.ireturn, 1) := by decide +kernel
theorem dX0_make_50 : decode cX0_make 50 = .ok (.aload_n 0, 1) := by decide +kernel
theorem dX0_make_51 : decode cX0_make 51 = .ok (.getfield 22, 3) := by decide +kernel
theorem dX0_make_54 : decode cX0_make 54 = .ok (.aload_n 0, 1) := by decide +kernel
theorem dX0_make_55 : decode cX0_make 55 = .ok (.getfield 9, 3) := by decide +kernel
theorem dX0_make_58 : decode cX0_make 58 = .ok (.iload_n 1, 1) := by decide +kernel
theorem dX0_make_59 : decode cX0_make 59 = .ok (.iastore, 1) := by decide +kernel
theorem dX0_make_60 : decode cX0_make 60 = .ok (.aload_n 0, 1) := by decide +kernel
theorem dX0_make_61 : decode cX0_make 61 = .ok (.getfield 26, 3) := by decide +kernel
theorem dX0_make_64 : decode cX0_make 64 = .ok (.aload_n 0, 1) := by decide +kernel
theorem dX0_make_65 : decode cX0_make 65 = .ok (.getfield 9, 3) := by decide +kernel
theorem dX0_make_68 : decode cX0_make 68 = .ok (.iload_n 2, 1) := by decide +kernel
theorem dX0_make_69 : decode cX0_make 69 = .ok (.iastore, 1) := by decide +kernel
theorem dX0_make_70 : decode cX0_make 70 = .ok (.aload_n 0, 1) := by decide +kernel
theorem dX0_make_71 : decode cX0_make 71 = .ok (.getfield 29, 3) := by decide +kernel
theorem dX0_make_74 : decode cX0_make 74 = .ok (.aload_n 0, 1) := by decide +kernel
theorem dX0_make_75 : decode cX0_make 75 = .ok (.getfield 9, 3) := by decide +kernel
theorem dX0_make_78 : decode cX0_make 78 = .ok (.iload_n 3, 1) := by decide +kernel
theorem dX0_make_79 : decode cX0_make 79 = .ok (.iastore, 1) := by decide +kernel
theorem dX0_make_80 : decode cX0_make 80 = .ok (.aload_n 0, 1) := by decide +kernel
theorem dX0_make_81 : decode cX0_make 81 = .ok (.getfield 32, 3) := by decide +kernel
theorem dX0_make_84 : decode cX0_make 84 = .ok (.aload_n 0, 1) := by decide +kernel
theorem dX0_make_85 : decode cX0_make 85 = .ok (.getfield 9, 3) := by decide +kernel
theorem dX0_make_88 : decode cX0_make 88 = .ok (.iconst (-1), 1) := by decide +kernel
theorem dX0_make_89 : decode cX0_make 89 = .ok (.iastore, 1) := by decide +kernel
theorem dX0_make_90 : decode cX0_make 90 = .ok (.aload_n 0, 1) := by decide +kernel
theorem dX0_make_91 : decode cX0_make 91 = .ok (.getfield 35, 3) := by decide +kernel
theorem dX0_make_94 : decode cX0_make 94 = .ok (.aload_n 0, 1) := by decide +kernel
theorem dX0_make_95 : decode cX0_make 95 = .ok (.getfield 9, 3) := by decide +kernel
theorem dX0_make_98 : decode cX0_make 98 = .ok (.iconst (-1), 1) := by decide +kernel
theorem dX0_make_99 : decode cX0_make 99 = .ok (.iastore, 1) := by decide +kernel
theorem dX0_make_100 : decode cX0_make 100 = .ok (.aload_n 0, 1) := by decide +kernel
theorem dX0_make_101 : decode cX0_make 101 = .ok (.dup, 1) := by decide +kernel
theorem dX0_make_102 : decode cX0_make 102 = .ok (.getfield 9, 3) := by decide +kernel
theorem dX0_make_105 : decode cX0_make 105 = .ok (.iconst 1, 1) := by decide +kernel
theorem dX0_make_106 : decode cX0_make 106 = .ok (.iadd, 1) := by decide +kernel
theorem dX0_make_107 : decode cX0_make 107 = .ok (.putfield 9, 3) := by decide +kernel
theorem dX0_make_110 : decode cX0_make 110 = .ok (.aload_n 0, 1) := by decide +kernel
theorem dX0_make_111 : decode cX0_make 111 = .ok (.getfield 9, 3) := by decide +kernel
theorem dX0_make_114 : decode cX0_make 114 = .ok (.iconst 1, 1) := by decide +kernel
theorem dX0_make_115 : decode cX0_make 115 = .ok (.isub, 1) := by decide +kernel
theorem dX0_make_116 : decode cX0_make 116 = .ok (.ireturn, 1) := by decide +kernel
theorem dX0_holderKnown_0 : decode cX0_holderKnown 0 = .ok (.aload_n 0, 1) := by decide +kernel
theorem dX0_holderKnown_1 : decode cX0_holderKnown 1 = .ok (.iload_n 1, 1) := by decide +kernel
theorem dX0_holderKnown_2 : decode cX0_holderKnown 2 = .ok (.invokevirtual 48, 3) := by decide +kernel
theorem dX0_holderKnown_5 : decode cX0_holderKnown 5 = .ok (.ifCond .eq 22, 3) := by decide +kernel
theorem dX0_holderKnown_8 : decode cX0_holderKnown 8 = .ok (.aload_n 0, 1) := by decide +kernel
theorem dX0_holderKnown_9 : decode cX0_holderKnown 9 = .ok (.getfield 18, 3) := by decide +kernel
theorem dX0_holderKnown_12 : decode cX0_holderKnown 12 = .ok (.iload_n 1, 1) := by decide +kernel
theorem dX0_holderKnown_13 : decode cX0_holderKnown 13 = .ok (.aload_n 0, 1) := by decide +kernel
theorem dX0_holderKnown_14 : decode cX0_holderKnown 14 = .ok (.getfield 26, 3) := by decide +kernel
theorem dX0_holderKnown_17 : decode cX0_holderKnown 17 = .ok (.iload_n 1, 1) := by decide +kernel
theorem dX0_holderKnown_18 : decode cX0_holderKnown 18 = .ok (.iaload, 1) := by decide +kernel
theorem dX0_holderKnown_19 : decode cX0_holderKnown 19 = .ok (.iload_n 2, 1) := by decide +kernel
theorem dX0_holderKnown_20 : decode cX0_holderKnown 20 = .ok (.iload_n 3, 1) := by decide +kernel
theorem dX0_holderKnown_21 : decode cX0_holderKnown 21 = .ok (.invokevirtual 51, 3) := by decide +kernel
theorem dX0_holderKnown_24 : decode cX0_holderKnown 24 = .ok (.goto 4, 3) := by decide +kernel
theorem dX0_holderKnown_27 : decode cX0_holderKnown 27 = .ok (.iconst (-1), 1) := by decide +kernel
theorem dX0_holderKnown_28 : decode cX0_holderKnown 28 = .ok (.ireturn, 1) := by decide +kernel
theorem dX0_settle_0 : decode cX0_settle 0 = .ok (.aload_n 0, 1) := by decide +kernel
theorem dX0_settle_1 : decode cX0_settle 1 = .ok (.iload_n 1, 1) := by decide +kernel
theorem dX0_settle_2 : decode cX0_settle 2 = .ok (.invokevirtual 48, 3) := by decide +kernel
theorem dX0_settle_5 : decode cX0_settle 5 = .ok (.ifCond .eq 23, 3) := by decide +kernel
theorem dX0_settle_8 : decode cX0_settle 8 = .ok (.aload_n 0, 1) := by decide +kernel
theorem dX0_settle_9 : decode cX0_settle 9 = .ok (.getfield 29, 3) := by decide +kernel
theorem dX0_settle_12 : decode cX0_settle 12 = .ok (.iload_n 1, 1) := by decide +kernel
theorem dX0_settle_13 : decode cX0_settle 13 = .ok (.iaload, 1) := by decide +kernel
theorem dX0_settle_14 : decode cX0_settle 14 = .ok (.iload_n 2, 1) := by decide +kernel
theorem dX0_settle_15 : decode cX0_settle 15 = .ok (.if_icmp .gt 13, 3) := by decide +kernel
theorem dX0_settle_18 : decode cX0_settle 18 = .ok (.aload_n 0, 1) := by decide +kernel
theorem dX0_settle_19 : decode cX0_settle 19 = .ok (.getfield 32, 3) := by decide +kernel
theorem dX0_settle_22 : decode cX0_settle 22 = .ok (.iload_n 1, 1) := by decide +kernel
theorem dX0_settle_23 : decode cX0_settle 23 = .ok (.iaload, 1) := by decide +kernel
theorem dX0_settle_24 : decode cX0_settle 24 = .ok (.iconst (-1), 1) := by decide +kernel
theorem dX0_settle_25 : decode cX0_settle 25 = .ok (.if_icmp .eq 5, 3) := by decide +kernel
theorem dX0_settle_28 : decode cX0_settle 28 = .ok (.iconst (-1), 1) := by decide +kernel
theorem dX0_settle_29 : decode cX0_settle 29 = .ok (.ireturn, 1) := by decide +kernel
theorem dX0_settle_30 : decode cX0_settle 30 = .ok (.aload_n 0, 1) := by decide +kernel
theorem dX0_settle_31 : decode cX0_settle 31 = .ok (.getfield 32, 3) := by decide +kernel
theorem dX0_settle_34 : decode cX0_settle 34 = .ok (.iload_n 1, 1) := by decide +kernel
theorem dX0_settle_35 : decode cX0_settle 35 = .ok (.iload_n 2, 1) := by decide +kernel
theorem dX0_settle_36 : decode cX0_settle 36 = .ok (.iastore, 1) := by decide +kernel
theorem dX0_settle_37 : decode cX0_settle 37 = .ok (.aload_n 0, 1) := by decide +kernel
theorem dX0_settle_38 : decode cX0_settle 38 = .ok (.getfield 35, 3) := by decide +kernel
theorem dX0_settle_41 : decode cX0_settle 41 = .ok (.iload_n 1, 1) := by decide +kernel
theorem dX0_settle_42 : decode cX0_settle 42 = .ok (.aload_n 0, 1) := by decide +kernel
theorem dX0_settle_43 : decode cX0_settle 43 = .ok (.iload_n 1, 1) := by decide +kernel
theorem dX0_settle_44 : decode cX0_settle 44 = .ok (.iload_n 2, 1) := by decide +kernel
theorem dX0_settle_45 : decode cX0_settle 45 = .ok (.iload_n 2, 1) := by decide +kernel
theorem dX0_settle_46 : decode cX0_settle 46 = .ok (.invokevirtual 55, 3) := by decide +kernel
theorem dX0_settle_49 : decode cX0_settle 49 = .ok (.iastore, 1) := by decide +kernel
theorem dX0_settle_50 : decode cX0_settle 50 = .ok (.aload_n 0, 1) := by decide +kernel
theorem dX0_settle_51 : decode cX0_settle 51 = .ok (.getfield 35, 3) := by decide +kernel
theorem dX0_settle_54 : decode cX0_settle 54 = .ok (.iload_n 1, 1) := by decide +kernel
theorem dX0_settle_55 : decode cX0_settle 55 = .ok (.iaload, 1) := by decide +kernel
theorem dX0_settle_56 : decode cX0_settle 56 = .ok (.ireturn, 1) := by decide +kernel
theorem dX0_tell_0 : decode cX0_tell 0 = .ok (.aload_n 0, 1) := by decide +kernel
theorem dX0_tell_1 : decode cX0_tell 1 = .ok (.iload_n 1, 1) := by decide +kernel
theorem dX0_tell_2 : decode cX0_tell 2 = .ok (.invokevirtual 48, 3) := by decide +kernel
theorem dX0_tell_5 : decode cX0_tell 5 = .ok (.ifCond .ne 5, 3) := by decide +kernel
theorem dX0_tell_8 : decode cX0_tell 8 = .ok (.iconst (-1), 1) := by decide +kernel
theorem dX0_tell_9 : decode cX0_tell 9 = .ok (.ireturn, 1) := by decide +kernel
theorem dX0_tell_10 : decode cX0_tell 10 = .ok (.iload_n 2, 1) := by decide +kernel
theorem dX0_tell_11 : decode cX0_tell 11 = .ok (.tableswitch 46 0 2 #[25, 32, 39], 25) := by decide +kernel
theorem dX0_tell_36 : decode cX0_tell 36 = .ok (.aload_n 0, 1) := by decide +kernel
theorem dX0_tell_37 : decode cX0_tell 37 = .ok (.getfield 22, 3) := by decide +kernel
theorem dX0_tell_40 : decode cX0_tell 40 = .ok (.iload_n 1, 1) := by decide +kernel
theorem dX0_tell_41 : decode cX0_tell 41 = .ok (.iaload, 1) := by decide +kernel
theorem dX0_tell_42 : decode cX0_tell 42 = .ok (.ireturn, 1) := by decide +kernel
theorem dX0_tell_43 : decode cX0_tell 43 = .ok (.aload_n 0, 1) := by decide +kernel
theorem dX0_tell_44 : decode cX0_tell 44 = .ok (.getfield 32, 3) := by decide +kernel
theorem dX0_tell_47 : decode cX0_tell 47 = .ok (.iload_n 1, 1) := by decide +kernel
theorem dX0_tell_48 : decode cX0_tell 48 = .ok (.iaload, 1) := by decide +kernel
theorem dX0_tell_49 : decode cX0_tell 49 = .ok (.ireturn, 1) := by decide +kernel
theorem dX0_tell_50 : decode cX0_tell 50 = .ok (.aload_n 0, 1) := by decide +kernel
theorem dX0_tell_51 : decode cX0_tell 51 = .ok (.getfield 35, 3) := by decide +kernel
theorem dX0_tell_54 : decode cX0_tell 54 = .ok (.iload_n 1, 1) := by decide +kernel
theorem dX0_tell_55 : decode cX0_tell 55 = .ok (.iaload, 1) := by decide +kernel
theorem dX0_tell_56 : decode cX0_tell 56 = .ok (.ireturn, 1) := by decide +kernel
theorem dX0_tell_57 : decode cX0_tell 57 = .ok (.iconst (-1), 1) := by decide +kernel
theorem dX0_tell_58 : decode cX0_tell 58 = .ok (.ireturn, 1) := by decide +kernel
theorem dX1_init_0 : decode cX1_init 0 = .ok (.aload_n 0, 1) := by decide +kernel
theorem dX1_init_1 : decode cX1_init 1 = .ok (.invokespecial 3, 3) := by decide +kernel
theorem dX1_init_4 : decode cX1_init 4 = .ok (.aload_n 0, 1) := by decide +kernel
theorem dX1_init_5 : decode cX1_init 5 = .ok (.iconst 0, 1) := by decide +kernel
theorem dX1_init_6 : decode cX1_init 6 = .ok (.putfield 9, 3) := by decide +kernel
theorem dX1_init_9 : decode cX1_init 9 = .ok (.aload_n 0, 1) := by decide +kernel
theorem dX1_init_10 : decode cX1_init 10 = .ok (.iconst 0, 1) := by decide +kernel
theorem dX1_init_11 : decode cX1_init 11 = .ok (.putfield 15, 3) := by decide +kernel
theorem dX1_init_14 : decode cX1_init 14 = .ok (.aload_n 0, 1) := by decide +kernel
theorem dX1_init_15 : decode cX1_init 15 = .ok (.new 18, 3) := by decide +kernel
theorem dX1_init_18 : decode cX1_init 18 = .ok (.dup, 1) := by decide +kernel
theorem dX1_init_19 : decode cX1_init 19 = .ok (.invokespecial 20, 3) := by decide +kernel
theorem dX1_init_22 : decode cX1_init 22 = .ok (.putfield 21, 3) := by decide +kernel
theorem dX1_init_25 : decode cX1_init 25 = .ok (.aload_n 0, 1) := by decide +kernel
theorem dX1_init_26 : decode cX1_init 26 = .ok (.iconst 0, 1) := by decide +kernel
theorem dX1_init_27 : decode cX1_init 27 = .ok (.putfield 25, 3) := by decide +kernel
theorem dX1_init_30 : decode cX1_init 30 = .ok (.aload_n 0, 1) := by decide +kernel
theorem dX1_init_31 : decode cX1_init 31 = .ok (.iconst 0, 1) := by decide +kernel
theorem dX1_init_32 : decode cX1_init 32 = .ok (.putfield 28, 3) := by decide +kernel
theorem dX1_init_35 : decode cX1_init 35 = .ok (.aload_n 0, 1) := by decide +kernel
theorem dX1_init_36 : decode cX1_init 36 = .ok (.iconst 0, 1) := by decide +kernel
theorem dX1_init_37 : decode cX1_init 37 = .ok (.putfield 31, 3) := by decide +kernel
theorem dX1_init_40 : decode cX1_init 40 = .ok (.aload_n 0, 1) := by decide +kernel
theorem dX1_init_41 : decode cX1_init 41 = .ok (.iconst 0, 1) := by decide +kernel
theorem dX1_init_42 : decode cX1_init 42 = .ok (.putfield 34, 3) := by decide +kernel
theorem dX1_init_45 : decode cX1_init 45 = .ok (.aload_n 0, 1) := by decide +kernel
theorem dX1_init_46 : decode cX1_init 46 = .ok (.iconst 0, 1) := by decide +kernel
theorem dX1_init_47 : decode cX1_init 47 = .ok (.putfield 37, 3) := by decide +kernel
theorem dX1_init_50 : decode cX1_init 50 = .ok (.aload_n 0, 1) := by decide +kernel
theorem dX1_init_51 : decode cX1_init 51 = .ok (.iload_n 1, 1) := by decide +kernel
theorem dX1_init_52 : decode cX1_init 52 = .ok (.putfield 40, 3) := by decide +kernel
theorem dX1_init_55 : decode cX1_init 55 = .ok (.aload_n 0, 1) := by decide +kernel
theorem dX1_init_56 : decode cX1_init 56 = .ok (.iload_n 2, 1) := by decide +kernel
theorem dX1_init_57 : decode cX1_init 57 = .ok (.putfield 43, 3) := by decide +kernel
theorem dX1_init_60 : decode cX1_init 60 = .ok (.aload_n 0, 1) := by decide +kernel
theorem dX1_init_61 : decode cX1_init 61 = .ok (.iload_n 3, 1) := by decide +kernel
theorem dX1_init_62 : decode cX1_init 62 = .ok (.putfield 46, 3) := by decide +kernel
theorem dX1_init_65 : decode cX1_init 65 = .ok (.aload_n 0, 1) := by decide +kernel
theorem dX1_init_66 : decode cX1_init 66 = .ok (.iload 4, 2) := by decide +kernel
theorem dX1_init_68 : decode cX1_init 68 = .ok (.putfield 49, 3) := by decide +kernel
theorem dX1_init_71 : decode cX1_init 71 = .ok (.return_, 1) := by decide +kernel
theorem dX1_want_0 : decode cX1_want 0 = .ok (.aload_n 0, 1) := by decide +kernel
theorem dX1_want_1 : decode cX1_want 1 = .ok (.getfield 40, 3) := by decide +kernel
theorem dX1_want_4 : decode cX1_want 4 = .ok (.aload_n 0, 1) := by decide +kernel
theorem dX1_want_5 : decode cX1_want 5 = .ok (.getfield 46, 3) := by decide +kernel
theorem dX1_want_8 : decode cX1_want 8 = .ok (.imul, 1) := by decide +kernel
theorem dX1_want_9 : decode cX1_want 9 = .ok (.ireturn, 1) := by decide +kernel
theorem dX1_sellOnTheWay_0 : decode cX1_sellOnTheWay 0 = .ok (.aload_n 0, 1) := by decide +kernel
theorem dX1_sellOnTheWay_1 : decode cX1_sellOnTheWay 1 = .ok (.iload_n 1, 1) := by decide +kernel
theorem dX1_sellOnTheWay_2 : decode cX1_sellOnTheWay 2 = .ok (.invokevirtual 52, 3) := by decide +kernel
theorem dX1_sellOnTheWay_5 : decode cX1_sellOnTheWay 5 = .ok (.istore_n 3, 1) := by decide +kernel
theorem dX1_sellOnTheWay_6 : decode cX1_sellOnTheWay 6 = .ok (.aload_n 0, 1) := by decide +kernel
theorem dX1_sellOnTheWay_7 : decode cX1_sellOnTheWay 7 = .ok (.iload_n 3, 1) := by decide +kernel
theorem dX1_sellOnTheWay_8 : decode cX1_sellOnTheWay 8 = .ok (.aload_n 0, 1) := by decide +kernel
theorem dX1_sellOnTheWay_9 : decode cX1_sellOnTheWay 9 = .ok (.getfield 43, 3) := by decide +kernel
theorem dX1_sellOnTheWay_12 : decode cX1_sellOnTheWay 12 = .ok (.imul, 1) := by decide +kernel
theorem dX1_sellOnTheWay_13 : decode cX1_sellOnTheWay 13 = .ok (.iload_n 2, 1) := by decide +kernel
theorem dX1_sellOnTheWay_14 : decode cX1_sellOnTheWay 14 = .ok (.imul, 1) := by decide +kernel
theorem dX1_sellOnTheWay_15 : decode cX1_sellOnTheWay 15 = .ok (.sipush 200, 3) := by decide +kernel
theorem dX1_sellOnTheWay_18 : decode cX1_sellOnTheWay 18 = .ok (.idiv, 1) := by decide +kernel
theorem dX1_sellOnTheWay_19 : decode cX1_sellOnTheWay 19 = .ok (.invokevirtual 56, 3) := by decide +kernel
theorem dX1_sellOnTheWay_22 : decode cX1_sellOnTheWay 22 = .ok (.aload_n 0, 1) := by decide +kernel
theorem dX1_sellOnTheWay_23 : decode cX1_sellOnTheWay 23 = .ok (.getfield 40, 3) := by decide +kernel
theorem dX1_sellOnTheWay_26 : decode cX1_sellOnTheWay 26 = .ok (.ifCond .le 18, 3) := by decide +kernel
theorem dX1_sellOnTheWay_29 : decode cX1_sellOnTheWay 29 = .ok (.aload_n 0, 1) := by decide +kernel
theorem dX1_sellOnTheWay_30 : decode cX1_sellOnTheWay 30 = .ok (.iconst 0, 1) := by decide +kernel
theorem dX1_sellOnTheWay_31 : decode cX1_sellOnTheWay 31 = .ok (.aload_n 0, 1) := by decide +kernel
theorem dX1_sellOnTheWay_32 : decode cX1_sellOnTheWay 32 = .ok (.getfield 9, 3) := by decide +kernel
theorem dX1_sellOnTheWay_35 : decode cX1_sellOnTheWay 35 = .ok (.bipush 15, 2) := by decide +kernel
theorem dX1_sellOnTheWay_37 : decode cX1_sellOnTheWay 37 = .ok (.isub, 1) := by decide +kernel
theorem dX1_sellOnTheWay_38 : decode cX1_sellOnTheWay 38 = .ok (.invokestatic 60, 3) := by decide +kernel
theorem dX1_sellOnTheWay_41 : decode cX1_sellOnTheWay 41 = .ok (.putfield 9, 3) := by decide +kernel
theorem dX1_sellOnTheWay_44 : decode cX1_sellOnTheWay 44 = .ok (.return_, 1) := by decide +kernel
theorem dX1_sellAtFair_0 : decode cX1_sellAtFair 0 = .ok (.aload_n 0, 1) := by decide +kernel
theorem dX1_sellAtFair_1 : decode cX1_sellAtFair 1 = .ok (.aload_n 0, 1) := by decide +kernel
theorem dX1_sellAtFair_2 : decode cX1_sellAtFair 2 = .ok (.getfield 40, 3) := by decide +kernel
theorem dX1_sellAtFair_5 : decode cX1_sellAtFair 5 = .ok (.invokevirtual 52, 3) := by decide +kernel
theorem dX1_sellAtFair_8 : decode cX1_sellAtFair 8 = .ok (.istore_n 2, 1) := by decide +kernel
theorem dX1_sellAtFair_9 : decode cX1_sellAtFair 9 = .ok (.aload_n 0, 1) := by decide +kernel
theorem dX1_sellAtFair_10 : decode cX1_sellAtFair 10 = .ok (.iload_n 2, 1) := by decide +kernel
theorem dX1_sellAtFair_11 : decode cX1_sellAtFair 11 = .ok (.aload_n 0, 1) := by decide +kernel
theorem dX1_sellAtFair_12 : decode cX1_sellAtFair 12 = .ok (.getfield 43, 3) := by decide +kernel
theorem dX1_sellAtFair_15 : decode cX1_sellAtFair 15 = .ok (.imul, 1) := by decide +kernel
theorem dX1_sellAtFair_16 : decode cX1_sellAtFair 16 = .ok (.iload_n 1, 1) := by decide +kernel
theorem dX1_sellAtFair_17 : decode cX1_sellAtFair 17 = .ok (.imul, 1) := by decide +kernel
theorem dX1_sellAtFair_18 : decode cX1_sellAtFair 18 = .ok (.bipush 100, 2) := by decide +kernel
theorem dX1_sellAtFair_20 : decode cX1_sellAtFair 20 = .ok (.idiv, 1) := by decide +kernel
theorem dX1_sellAtFair_21 : decode cX1_sellAtFair 21 = .ok (.invokevirtual 56, 3) := by decide +kernel
theorem dX1_sellAtFair_24 : decode cX1_sellAtFair 24 = .ok (.return_, 1) := by decide +kernel
theorem dX1_sellHeads_0 : decode cX1_sellHeads 0 = .ok (.iload_n 1, 1) := by decide +kernel
theorem dX1_sellHeads_1 : decode cX1_sellHeads 1 = .ok (.aload_n 0, 1) := by decide +kernel
theorem dX1_sellHeads_2 : decode cX1_sellHeads 2 = .ok (.getfield 40, 3) := by decide +kernel
theorem dX1_sellHeads_5 : decode cX1_sellHeads 5 = .ok (.invokestatic 66, 3) := by decide +kernel
theorem dX1_sellHeads_8 : decode cX1_sellHeads 8 = .ok (.istore_n 2, 1) := by decide +kernel
theorem dX1_sellHeads_9 : decode cX1_sellHeads 9 = .ok (.aload_n 0, 1) := by decide +kernel
theorem dX1_sellHeads_10 : decode cX1_sellHeads 10 = .ok (.dup, 1) := by decide +kernel
theorem dX1_sellHeads_11 : decode cX1_sellHeads 11 = .ok (.getfield 40, 3) := by decide +kernel
theorem dX1_sellHeads_14 : decode cX1_sellHeads 14 = .ok (.iload_n 2, 1) := by decide +kernel
theorem dX1_sellHeads_15 : decode cX1_sellHeads 15 = .ok (.isub, 1) := by decide +kernel
theorem dX1_sellHeads_16 : decode cX1_sellHeads 16 = .ok (.putfield 40, 3) := by decide +kernel
theorem dX1_sellHeads_19 : decode cX1_sellHeads 19 = .ok (.aload_n 0, 1) := by decide +kernel
theorem dX1_sellHeads_20 : decode cX1_sellHeads 20 = .ok (.dup, 1) := by decide +kernel
theorem dX1_sellHeads_21 : decode cX1_sellHeads 21 = .ok (.getfield 31, 3) := by decide +kernel
theorem dX1_sellHeads_24 : decode cX1_sellHeads 24 = .ok (.iload_n 2, 1) := by decide +kernel
theorem dX1_sellHeads_25 : decode cX1_sellHeads 25 = .ok (.iadd, 1) := by decide +kernel
theorem dX1_sellHeads_26 : decode cX1_sellHeads 26 = .ok (.putfield 31, 3) := by decide +kernel
theorem dX1_sellHeads_29 : decode cX1_sellHeads 29 = .ok (.iload_n 2, 1) := by decide +kernel
theorem dX1_sellHeads_30 : decode cX1_sellHeads 30 = .ok (.ireturn, 1) := by decide +kernel
theorem dX1_earn_0 : decode cX1_earn 0 = .ok (.aload_n 0, 1) := by decide +kernel
theorem dX1_earn_1 : decode cX1_earn 1 = .ok (.ldc 69, 2) := by decide +kernel
theorem dX1_earn_3 : decode cX1_earn 3 = .ok (.aload_n 0, 1) := by decide +kernel
theorem dX1_earn_4 : decode cX1_earn 4 = .ok (.getfield 25, 3) := by decide +kernel
theorem dX1_earn_7 : decode cX1_earn 7 = .ok (.iload_n 1, 1) := by decide +kernel
theorem dX1_earn_8 : decode cX1_earn 8 = .ok (.iadd, 1) := by decide +kernel
theorem dX1_earn_9 : decode cX1_earn 9 = .ok (.invokestatic 66, 3) := by decide +kernel
theorem dX1_earn_12 : decode cX1_earn 12 = .ok (.putfield 25, 3) := by decide +kernel
theorem dX1_earn_15 : decode cX1_earn 15 = .ok (.return_, 1) := by decide +kernel
theorem dX1_walk_0 : decode cX1_walk 0 = .ok (.aload_n 0, 1) := by decide +kernel
theorem dX1_walk_1 : decode cX1_walk 1 = .ok (.dup, 1) := by decide +kernel
theorem dX1_walk_2 : decode cX1_walk 2 = .ok (.getfield 15, 3) := by decide +kernel
theorem dX1_walk_5 : decode cX1_walk 5 = .ok (.iconst 1, 1) := by decide +kernel
theorem dX1_walk_6 : decode cX1_walk 6 = .ok (.iadd, 1) := by decide +kernel
theorem dX1_walk_7 : decode cX1_walk 7 = .ok (.putfield 15, 3) := by decide +kernel
theorem dX1_walk_10 : decode cX1_walk 10 = .ok (.aload_n 0, 1) := by decide +kernel
theorem dX1_walk_11 : decode cX1_walk 11 = .ok (.dup, 1) := by decide +kernel
theorem dX1_walk_12 : decode cX1_walk 12 = .ok (.getfield 9, 3) := by decide +kernel
theorem dX1_walk_15 : decode cX1_walk 15 = .ok (.iload_n 1, 1) := by decide +kernel
theorem dX1_walk_16 : decode cX1_walk 16 = .ok (.iadd, 1) := by decide +kernel
theorem dX1_walk_17 : decode cX1_walk 17 = .ok (.putfield 9, 3) := by decide +kernel
theorem dX1_walk_20 : decode cX1_walk 20 = .ok (.aload_n 0, 1) := by decide +kernel
theorem dX1_walk_21 : decode cX1_walk 21 = .ok (.iconst 0, 1) := by decide +kernel
theorem dX1_walk_22 : decode cX1_walk 22 = .ok (.aload_n 0, 1) := by decide +kernel
theorem dX1_walk_23 : decode cX1_walk 23 = .ok (.getfield 43, 3) := by decide +kernel
theorem dX1_walk_26 : decode cX1_walk 26 = .ok (.iload_n 1, 1) := by decide +kernel
theorem dX1_walk_27 : decode cX1_walk 27 = .ok (.iconst 5, 1) := by decide +kernel
theorem dX1_walk_28 : decode cX1_walk 28 = .ok (.idiv, 1) := by decide +kernel
theorem dX1_walk_29 : decode cX1_walk 29 = .ok (.isub, 1) := by decide +kernel
theorem dX1_walk_30 : decode cX1_walk 30 = .ok (.invokestatic 60, 3) := by decide +kernel
theorem dX1_walk_33 : decode cX1_walk 33 = .ok (.putfield 43, 3) := by decide +kernel
theorem dX1_walk_36 : decode cX1_walk 36 = .ok (.aload_n 0, 1) := by decide +kernel
theorem dX1_walk_37 : decode cX1_walk 37 = .ok (.getfield 9, 3) := by decide +kernel
theorem dX1_walk_40 : decode cX1_walk 40 = .ok (.bipush 60, 2) := by decide +kernel
theorem dX1_walk_42 : decode cX1_walk 42 = .ok (.if_icmp .gt 5, 3) := by decide +kernel
theorem dX1_walk_45 : decode cX1_walk 45 = .ok (.iconst 0, 1) := by decide +kernel
theorem dX1_walk_46 : decode cX1_walk 46 = .ok (.ireturn, 1) := by decide +kernel
theorem dX1_walk_47 : decode cX1_walk 47 = .ok (.aload_n 0, 1) := by decide +kernel
theorem dX1_walk_48 : decode cX1_walk 48 = .ok (.getfield 40, 3) := by decide +kernel
theorem dX1_walk_51 : decode cX1_walk 51 = .ok (.aload_n 0, 1) := by decide +kernel
theorem dX1_walk_52 : decode cX1_walk 52 = .ok (.getfield 40, 3) := by decide +kernel
theorem dX1_walk_55 : decode cX1_walk 55 = .ok (.bipush 20, 2) := by decide +kernel
theorem dX1_walk_57 : decode cX1_walk 57 = .ok (.idiv, 1) := by decide +kernel
theorem dX1_walk_58 : decode cX1_walk 58 = .ok (.iconst 1, 1) := by decide +kernel
theorem dX1_walk_59 : decode cX1_walk 59 = .ok (.iadd, 1) := by decide +kernel
theorem dX1_walk_60 : decode cX1_walk 60 = .ok (.invokestatic 66, 3) := by decide +kernel
theorem dX1_walk_63 : decode cX1_walk 63 = .ok (.istore_n 2, 1) := by decide +kernel
theorem dX1_walk_64 : decode cX1_walk 64 = .ok (.aload_n 0, 1) := by decide +kernel
theorem dX1_walk_65 : decode cX1_walk 65 = .ok (.dup, 1) := by decide +kernel
theorem dX1_walk_66 : decode cX1_walk 66 = .ok (.getfield 40, 3) := by decide +kernel
theorem dX1_walk_69 : decode cX1_walk 69 = .ok (.iload_n 2, 1) := by decide +kernel
theorem dX1_walk_70 : decode cX1_walk 70 = .ok (.isub, 1) := by decide +kernel
theorem dX1_walk_71 : decode cX1_walk 71 = .ok (.putfield 40, 3) := by decide +kernel
theorem dX1_walk_74 : decode cX1_walk 74 = .ok (.aload_n 0, 1) := by decide +kernel
theorem dX1_walk_75 : decode cX1_walk 75 = .ok (.dup, 1) := by decide +kernel
theorem dX1_walk_76 : decode cX1_walk 76 = .ok (.getfield 28, 3) := by decide +kernel
theorem dX1_walk_79 : decode cX1_walk 79 = .ok (.iload_n 2, 1) := by decide +kernel
theorem dX1_walk_80 : decode cX1_walk 80 = .ok (.iadd, 1) := by decide +kernel
theorem dX1_walk_81 : decode cX1_walk 81 = .ok (.putfield 28, 3) := by decide +kernel
theorem dX1_walk_84 : decode cX1_walk 84 = .ok (.iload_n 2, 1) := by decide +kernel
theorem dX1_walk_85 : decode cX1_walk 85 = .ok (.ireturn, 1) := by decide +kernel
theorem dX1_eat_0 : decode cX1_eat 0 = .ok (.aload_n 0, 1) := by decide +kernel
theorem dX1_eat_1 : decode cX1_eat 1 = .ok (.dup, 1) := by decide +kernel
theorem dX1_eat_2 : decode cX1_eat 2 = .ok (.getfield 37, 3) := by decide +kernel
theorem dX1_eat_5 : decode cX1_eat 5 = .ok (.iload_n 1, 1) := by decide +kernel
theorem dX1_eat_6 : decode cX1_eat 6 = .ok (.iadd, 1) := by decide +kernel
theorem dX1_eat_7 : decode cX1_eat 7 = .ok (.putfield 37, 3) := by decide +kernel
theorem dX1_eat_10 : decode cX1_eat 10 = .ok (.iload_n 1, 1) := by decide +kernel
theorem dX1_eat_11 : decode cX1_eat 11 = .ok (.aload_n 0, 1) := by decide +kernel
theorem dX1_eat_12 : decode cX1_eat 12 = .ok (.invokevirtual 70, 3) := by decide +kernel
theorem dX1_eat_15 : decode cX1_eat 15 = .ok (.if_icmp .lt 30, 3) := by decide +kernel
theorem dX1_eat_18 : decode cX1_eat 18 = .ok (.aload_n 0, 1) := by decide +kernel
theorem dX1_eat_19 : decode cX1_eat 19 = .ok (.sipush 700, 3) := by decide +kernel
theorem dX1_eat_22 : decode cX1_eat 22 = .ok (.aload_n 0, 1) := by decide +kernel
theorem dX1_eat_23 : decode cX1_eat 23 = .ok (.getfield 43, 3) := by decide +kernel
theorem dX1_eat_26 : decode cX1_eat 26 = .ok (.iload_n 2, 1) := by decide +kernel
theorem dX1_eat_27 : decode cX1_eat 27 = .ok (.ifCond .eq 7, 3) := by decide +kernel
theorem dX1_eat_30 : decode cX1_eat 30 = .ok (.iconst 1, 1) := by decide +kernel
theorem dX1_eat_31 : decode cX1_eat 31 = .ok (.goto 4, 3) := by decide +kernel
theorem dX1_eat_34 : decode cX1_eat 34 = .ok (.iconst 3, 1) := by decide +kernel
theorem dX1_eat_35 : decode cX1_eat 35 = .ok (.iadd, 1) := by decide +kernel
theorem dX1_eat_36 : decode cX1_eat 36 = .ok (.invokestatic 66, 3) := by decide +kernel
theorem dX1_eat_39 : decode cX1_eat 39 = .ok (.putfield 43, 3) := by decide +kernel
theorem dX1_eat_42 : decode cX1_eat 42 = .ok (.goto 17, 3) := by decide +kernel
theorem dX1_eat_45 : decode cX1_eat 45 = .ok (.aload_n 0, 1) := by decide +kernel
theorem dX1_eat_46 : decode cX1_eat 46 = .ok (.iconst 0, 1) := by decide +kernel
theorem dX1_eat_47 : decode cX1_eat 47 = .ok (.aload_n 0, 1) := by decide +kernel
theorem dX1_eat_48 : decode cX1_eat 48 = .ok (.getfield 43, 3) := by decide +kernel
theorem dX1_eat_51 : decode cX1_eat 51 = .ok (.iconst 4, 1) := by decide +kernel
theorem dX1_eat_52 : decode cX1_eat 52 = .ok (.isub, 1) := by decide +kernel
theorem dX1_eat_53 : decode cX1_eat 53 = .ok (.invokestatic 60, 3) := by decide +kernel
theorem dX1_eat_56 : decode cX1_eat 56 = .ok (.putfield 43, 3) := by decide +kernel
theorem dX1_eat_59 : decode cX1_eat 59 = .ok (.aload_n 0, 1) := by decide +kernel
theorem dX1_eat_60 : decode cX1_eat 60 = .ok (.getfield 43, 3) := by decide +kernel
theorem dX1_eat_63 : decode cX1_eat 63 = .ok (.bipush 80, 2) := by decide +kernel
theorem dX1_eat_65 : decode cX1_eat 65 = .ok (.if_icmp .ge 40, 3) := by decide +kernel
theorem dX1_eat_68 : decode cX1_eat 68 = .ok (.aload_n 0, 1) := by decide +kernel
theorem dX1_eat_69 : decode cX1_eat 69 = .ok (.getfield 40, 3) := by decide +kernel
theorem dX1_eat_72 : decode cX1_eat 72 = .ok (.aload_n 0, 1) := by decide +kernel
theorem dX1_eat_73 : decode cX1_eat 73 = .ok (.getfield 40, 3) := by decide +kernel
theorem dX1_eat_76 : decode cX1_eat 76 = .ok (.bipush 10, 2) := by decide +kernel
theorem dX1_eat_78 : decode cX1_eat 78 = .ok (.idiv, 1) := by decide +kernel
theorem dX1_eat_79 : decode cX1_eat 79 = .ok (.iconst 1, 1) := by decide +kernel
theorem dX1_eat_80 : decode cX1_eat 80 = .ok (.iadd, 1) := by decide +kernel
theorem dX1_eat_81 : decode cX1_eat 81 = .ok (.invokestatic 66, 3) := by decide +kernel
theorem dX1_eat_84 : decode cX1_eat 84 = .ok (.istore_n 3, 1) := by decide +kernel
theorem dX1_eat_85 : decode cX1_eat 85 = .ok (.aload_n 0, 1) := by decide +kernel
theorem dX1_eat_86 : decode cX1_eat 86 = .ok (.dup, 1) := by decide +kernel
theorem dX1_eat_87 : decode cX1_eat 87 = .ok (.getfield 40, 3) := by decide +kernel
theorem dX1_eat_90 : decode cX1_eat 90 = .ok (.iload_n 3, 1) := by decide +kernel
theorem dX1_eat_91 : decode cX1_eat 91 = .ok (.isub, 1) := by decide +kernel
theorem dX1_eat_92 : decode cX1_eat 92 = .ok (.putfield 40, 3) := by decide +kernel
theorem dX1_eat_95 : decode cX1_eat 95 = .ok (.aload_n 0, 1) := by decide +kernel
theorem dX1_eat_96 : decode cX1_eat 96 = .ok (.dup, 1) := by decide +kernel
theorem dX1_eat_97 : decode cX1_eat 97 = .ok (.getfield 34, 3) := by decide +kernel
theorem dX1_eat_100 : decode cX1_eat 100 = .ok (.iload_n 3, 1) := by decide +kernel
theorem dX1_eat_101 : decode cX1_eat 101 = .ok (.iadd, 1) := by decide +kernel
theorem dX1_eat_102 : decode cX1_eat 102 = .ok (.putfield 34, 3) := by decide +kernel
theorem dX1_eat_105 : decode cX1_eat 105 = .ok (.return_, 1) := by decide +kernel
theorem dX1_tell_0 : decode cX1_tell 0 = .ok (.iload_n 1, 1) := by decide +kernel
theorem dX1_tell_1 : decode cX1_tell 1 = .ok (.tableswitch 108 0 9 #[55, 60, 65, 70, 75, 80, 85, 90, 95, 103], 55) := by decide +kernel
theorem dX1_tell_56 : decode cX1_tell 56 = .ok (.aload_n 0, 1) := by decide +kernel
theorem dX1_tell_57 : decode cX1_tell 57 = .ok (.getfield 40, 3) := by decide +kernel
theorem dX1_tell_60 : decode cX1_tell 60 = .ok (.ireturn, 1) := by decide +kernel
theorem dX1_tell_61 : decode cX1_tell 61 = .ok (.aload_n 0, 1) := by decide +kernel
theorem dX1_tell_62 : decode cX1_tell 62 = .ok (.getfield 43, 3) := by decide +kernel
theorem dX1_tell_65 : decode cX1_tell 65 = .ok (.ireturn, 1) := by decide +kernel
theorem dX1_tell_66 : decode cX1_tell 66 = .ok (.aload_n 0, 1) := by decide +kernel
theorem dX1_tell_67 : decode cX1_tell 67 = .ok (.getfield 9, 3) := by decide +kernel
theorem dX1_tell_70 : decode cX1_tell 70 = .ok (.ireturn, 1) := by decide +kernel
theorem dX1_tell_71 : decode cX1_tell 71 = .ok (.aload_n 0, 1) := by decide +kernel
theorem dX1_tell_72 : decode cX1_tell 72 = .ok (.getfield 15, 3) := by decide +kernel
theorem dX1_tell_75 : decode cX1_tell 75 = .ok (.ireturn, 1) := by decide +kernel
theorem dX1_tell_76 : decode cX1_tell 76 = .ok (.aload_n 0, 1) := by decide +kernel
theorem dX1_tell_77 : decode cX1_tell 77 = .ok (.getfield 25, 3) := by decide +kernel
theorem dX1_tell_80 : decode cX1_tell 80 = .ok (.ireturn, 1) := by decide +kernel
theorem dX1_tell_81 : decode cX1_tell 81 = .ok (.aload_n 0, 1) := by decide +kernel
theorem dX1_tell_82 : decode cX1_tell 82 = .ok (.getfield 28, 3) := by decide +kernel
theorem dX1_tell_85 : decode cX1_tell 85 = .ok (.ireturn, 1) := by decide +kernel
theorem dX1_tell_86 : decode cX1_tell 86 = .ok (.aload_n 0, 1) := by decide +kernel
theorem dX1_tell_87 : decode cX1_tell 87 = .ok (.getfield 31, 3) := by decide +kernel
theorem dX1_tell_90 : decode cX1_tell 90 = .ok (.ireturn, 1) := by decide +kernel
theorem dX1_tell_91 : decode cX1_tell 91 = .ok (.aload_n 0, 1) := by decide +kernel
theorem dX1_tell_92 : decode cX1_tell 92 = .ok (.getfield 34, 3) := by decide +kernel
theorem dX1_tell_95 : decode cX1_tell 95 = .ok (.ireturn, 1) := by decide +kernel
theorem dX1_tell_96 : decode cX1_tell 96 = .ok (.aload_n 0, 1) := by decide +kernel
theorem dX1_tell_97 : decode cX1_tell 97 = .ok (.getfield 21, 3) := by decide +kernel
theorem dX1_tell_100 : decode cX1_tell 100 = .ok (.getfield 74, 3) := by decide +kernel
theorem dX1_tell_103 : decode cX1_tell 103 = .ok (.ireturn, 1) := by decide +kernel
theorem dX1_tell_104 : decode cX1_tell 104 = .ok (.aload_n 0, 1) := by decide +kernel
theorem dX1_tell_105 : decode cX1_tell 105 = .ok (.getfield 37, 3) := by decide +kernel
theorem dX1_tell_108 : decode cX1_tell 108 = .ok (.ireturn, 1) := by decide +kernel
theorem dX1_tell_109 : decode cX1_tell 109 = .ok (.iconst (-1), 1) := by decide +kernel
theorem dX1_tell_110 : decode cX1_tell 110 = .ok (.ireturn, 1) := by decide +kernel
theorem dX2_init_0 : decode cX2_init 0 = .ok (.aload_n 0, 1) := by decide +kernel
theorem dX2_init_1 : decode cX2_init 1 = .ok (.invokespecial 3, 3) := by decide +kernel
theorem dX2_init_4 : decode cX2_init 4 = .ok (.aload_n 0, 1) := by decide +kernel
theorem dX2_init_5 : decode cX2_init 5 = .ok (.iconst 0, 1) := by decide +kernel
theorem dX2_init_6 : decode cX2_init 6 = .ok (.putfield 9, 3) := by decide +kernel
theorem dX2_init_9 : decode cX2_init 9 = .ok (.aload_n 0, 1) := by decide +kernel
theorem dX2_init_10 : decode cX2_init 10 = .ok (.bipush 30, 2) := by decide +kernel
theorem dX2_init_12 : decode cX2_init 12 = .ok (.newarray .int, 2) := by decide +kernel
theorem dX2_init_14 : decode cX2_init 14 = .ok (.putfield 15, 3) := by decide +kernel
theorem dX2_init_17 : decode cX2_init 17 = .ok (.aload_n 0, 1) := by decide +kernel
theorem dX2_init_18 : decode cX2_init 18 = .ok (.bipush 30, 2) := by decide +kernel
theorem dX2_init_20 : decode cX2_init 20 = .ok (.newarray .int, 2) := by decide +kernel
theorem dX2_init_22 : decode cX2_init 22 = .ok (.putfield 19, 3) := by decide +kernel
theorem dX2_init_25 : decode cX2_init 25 = .ok (.return_, 1) := by decide +kernel
theorem dX2_send_0 : decode cX2_send 0 = .ok (.iload_n 1, 1) := by decide +kernel
theorem dX2_send_1 : decode cX2_send 1 = .ok (.iconst 0, 1) := by decide +kernel
theorem dX2_send_2 : decode cX2_send 2 = .ok (.sipush 1000, 3) := by decide +kernel
theorem dX2_send_5 : decode cX2_send 5 = .ok (.invokestatic 22, 3) := by decide +kernel
theorem dX2_send_8 : decode cX2_send 8 = .ok (.ifCond .eq 12, 3) := by decide +kernel
theorem dX2_send_11 : decode cX2_send 11 = .ok (.aload_n 0, 1) := by decide +kernel
theorem dX2_send_12 : decode cX2_send 12 = .ok (.getfield 9, 3) := by decide +kernel
theorem dX2_send_15 : decode cX2_send 15 = .ok (.bipush 30, 2) := by decide +kernel
theorem dX2_send_17 : decode cX2_send 17 = .ok (.if_icmp .lt 5, 3) := by decide +kernel
theorem dX2_send_20 : decode cX2_send 20 = .ok (.iconst (-1), 1) := by decide +kernel
theorem dX2_send_21 : decode cX2_send 21 = .ok (.ireturn, 1) := by decide +kernel
theorem dX2_send_22 : decode cX2_send 22 = .ok (.aload_n 0, 1) := by decide +kernel
theorem dX2_send_23 : decode cX2_send 23 = .ok (.getfield 15, 3) := by decide +kernel
theorem dX2_send_26 : decode cX2_send 26 = .ok (.aload_n 0, 1) := by decide +kernel
theorem dX2_send_27 : decode cX2_send 27 = .ok (.getfield 9, 3) := by decide +kernel
theorem dX2_send_30 : decode cX2_send 30 = .ok (.iload_n 1, 1) := by decide +kernel
theorem dX2_send_31 : decode cX2_send 31 = .ok (.iastore, 1) := by decide +kernel
theorem dX2_send_32 : decode cX2_send 32 = .ok (.aload_n 0, 1) := by decide +kernel
theorem dX2_send_33 : decode cX2_send 33 = .ok (.getfield 19, 3) := by decide +kernel
theorem dX2_send_36 : decode cX2_send 36 = .ok (.aload_n 0, 1) := by decide +kernel
theorem dX2_send_37 : decode cX2_send 37 = .ok (.getfield 9, 3) := by decide +kernel
theorem dX2_send_40 : decode cX2_send 40 = .ok (.iload_n 2, 1) := by decide +kernel
theorem dX2_send_41 : decode cX2_send 41 = .ok (.iastore, 1) := by decide +kernel
theorem dX2_send_42 : decode cX2_send 42 = .ok (.aload_n 0, 1) := by decide +kernel
theorem dX2_send_43 : decode cX2_send 43 = .ok (.dup, 1) := by decide +kernel
theorem dX2_send_44 : decode cX2_send 44 = .ok (.getfield 9, 3) := by decide +kernel
theorem dX2_send_47 : decode cX2_send 47 = .ok (.iconst 1, 1) := by decide +kernel
theorem dX2_send_48 : decode cX2_send 48 = .ok (.iadd, 1) := by decide +kernel
theorem dX2_send_49 : decode cX2_send 49 = .ok (.putfield 9, 3) := by decide +kernel
theorem dX2_send_52 : decode cX2_send 52 = .ok (.aload_n 0, 1) := by decide +kernel
theorem dX2_send_53 : decode cX2_send 53 = .ok (.getfield 9, 3) := by decide +kernel
theorem dX2_send_56 : decode cX2_send 56 = .ok (.ireturn, 1) := by decide +kernel
theorem dX2_priceKnown_0 : decode cX2_priceKnown 0 = .ok (.iload_n 1, 1) := by decide +kernel
theorem dX2_priceKnown_1 : decode cX2_priceKnown 1 = .ok (.bipush 40, 2) := by decide +kernel
theorem dX2_priceKnown_3 : decode cX2_priceKnown 3 = .ok (.iadd, 1) := by decide +kernel
theorem dX2_priceKnown_4 : decode cX2_priceKnown 4 = .ok (.iconst 1, 1) := by decide +kernel
theorem dX2_priceKnown_5 : decode cX2_priceKnown 5 = .ok (.isub, 1) := by decide +kernel
theorem dX2_priceKnown_6 : decode cX2_priceKnown 6 = .ok (.bipush 40, 2) := by decide +kernel
theorem dX2_priceKnown_8 : decode cX2_priceKnown 8 = .ok (.idiv, 1) := by decide +kernel
theorem dX2_priceKnown_9 : decode cX2_priceKnown 9 = .ok (.istore_n 3, 1) := by decide +kernel
theorem dX2_priceKnown_10 : decode cX2_priceKnown 10 = .ok (.aload_n 0, 1) := by decide +kernel
theorem dX2_priceKnown_11 : decode cX2_priceKnown 11 = .ok (.getfield 9, 3) := by decide +kernel
theorem dX2_priceKnown_14 : decode cX2_priceKnown 14 = .ok (.iconst 1, 1) := by decide +kernel
theorem dX2_priceKnown_15 : decode cX2_priceKnown 15 = .ok (.isub, 1) := by decide +kernel
theorem dX2_priceKnown_16 : decode cX2_priceKnown 16 = .ok (.istore 4, 2) := by decide +kernel
theorem dX2_priceKnown_18 : decode cX2_priceKnown 18 = .ok (.iload 4, 2) := by decide +kernel
theorem dX2_priceKnown_20 : decode cX2_priceKnown 20 = .ok (.ifCond .lt 30, 3) := by decide +kernel
theorem dX2_priceKnown_23 : decode cX2_priceKnown 23 = .ok (.aload_n 0, 1) := by decide +kernel
theorem dX2_priceKnown_24 : decode cX2_priceKnown 24 = .ok (.getfield 19, 3) := by decide +kernel
theorem dX2_priceKnown_27 : decode cX2_priceKnown 27 = .ok (.iload 4, 2) := by decide +kernel
theorem dX2_priceKnown_29 : decode cX2_priceKnown 29 = .ok (.iaload, 1) := by decide +kernel
theorem dX2_priceKnown_30 : decode cX2_priceKnown 30 = .ok (.iload_n 3, 1) := by decide +kernel
theorem dX2_priceKnown_31 : decode cX2_priceKnown 31 = .ok (.iadd, 1) := by decide +kernel
theorem dX2_priceKnown_32 : decode cX2_priceKnown 32 = .ok (.iload_n 2, 1) := by decide +kernel
theorem dX2_priceKnown_33 : decode cX2_priceKnown 33 = .ok (.if_icmp .gt 11, 3) := by decide +kernel
theorem dX2_priceKnown_36 : decode cX2_priceKnown 36 = .ok (.aload_n 0, 1) := by decide +kernel
theorem dX2_priceKnown_37 : decode cX2_priceKnown 37 = .ok (.getfield 15, 3) := by decide +kernel
theorem dX2_priceKnown_40 : decode cX2_priceKnown 40 = .ok (.iload 4, 2) := by decide +kernel
theorem dX2_priceKnown_42 : decode cX2_priceKnown 42 = .ok (.iaload, 1) := by decide +kernel
theorem dX2_priceKnown_43 : decode cX2_priceKnown 43 = .ok (.ireturn, 1) := by decide +kernel
theorem dX2_priceKnown_44 : decode cX2_priceKnown 44 = .ok (.iinc 4 (-1), 3) := by decide +kernel
theorem dX2_priceKnown_47 : decode cX2_priceKnown 47 = .ok (.goto (-29), 3) := by decide +kernel
theorem dX2_priceKnown_50 : decode cX2_priceKnown 50 = .ok (.iconst 0, 1) := by decide +kernel
theorem dX2_priceKnown_51 : decode cX2_priceKnown 51 = .ok (.ireturn, 1) := by decide +kernel
theorem dX3_init_0 : decode cX3_init 0 = .ok (.aload_n 0, 1) := by decide +kernel
theorem dX3_init_1 : decode cX3_init 1 = .ok (.invokespecial 1, 3) := by decide +kernel
theorem dX3_init_4 : decode cX3_init 4 = .ok (.aload_n 0, 1) := by decide +kernel
theorem dX3_init_5 : decode cX3_init 5 = .ok (.bipush 27, 2) := by decide +kernel
theorem dX3_init_7 : decode cX3_init 7 = .ok (.putfield 9, 3) := by decide +kernel
theorem dX3_init_10 : decode cX3_init 10 = .ok (.aload_n 0, 1) := by decide +kernel
theorem dX3_init_11 : decode cX3_init 11 = .ok (.iconst 0, 1) := by decide +kernel
theorem dX3_init_12 : decode cX3_init 12 = .ok (.putfield 13, 3) := by decide +kernel
theorem dX3_init_15 : decode cX3_init 15 = .ok (.aload_n 0, 1) := by decide +kernel
theorem dX3_init_16 : decode cX3_init 16 = .ok (.iconst 0, 1) := by decide +kernel
theorem dX3_init_17 : decode cX3_init 17 = .ok (.putfield 16, 3) := by decide +kernel
theorem dX3_init_20 : decode cX3_init 20 = .ok (.aload_n 0, 1) := by decide +kernel
theorem dX3_init_21 : decode cX3_init 21 = .ok (.iconst 0, 1) := by decide +kernel
theorem dX3_init_22 : decode cX3_init 22 = .ok (.putfield 19, 3) := by decide +kernel
theorem dX3_init_25 : decode cX3_init 25 = .ok (.aload_n 0, 1) := by decide +kernel
theorem dX3_init_26 : decode cX3_init 26 = .ok (.aload_n 1, 1) := by decide +kernel
theorem dX3_init_27 : decode cX3_init 27 = .ok (.putfield 22, 3) := by decide +kernel
theorem dX3_init_30 : decode cX3_init 30 = .ok (.aload_n 0, 1) := by decide +kernel
theorem dX3_init_31 : decode cX3_init 31 = .ok (.iload_n 2, 1) := by decide +kernel
theorem dX3_init_32 : decode cX3_init 32 = .ok (.aload_n 1, 1) := by decide +kernel
theorem dX3_init_33 : decode cX3_init 33 = .ok (.arraylength, 1) := by decide +kernel
theorem dX3_init_34 : decode cX3_init 34 = .ok (.invokestatic 26, 3) := by decide +kernel
theorem dX3_init_37 : decode cX3_init 37 = .ok (.putfield 32, 3) := by decide +kernel
theorem dX3_init_40 : decode cX3_init 40 = .ok (.return_, 1) := by decide +kernel
theorem dX3_advance_0 : decode cX3_advance 0 = .ok (.aload_n 0, 1) := by decide +kernel
theorem dX3_advance_1 : decode cX3_advance 1 = .ok (.getfield 19, 3) := by decide +kernel
theorem dX3_advance_4 : decode cX3_advance 4 = .ok (.aload_n 0, 1) := by decide +kernel
theorem dX3_advance_5 : decode cX3_advance 5 = .ok (.getfield 32, 3) := by decide +kernel
theorem dX3_advance_8 : decode cX3_advance 8 = .ok (.if_icmp .ge 30, 3) := by decide +kernel
theorem dX3_advance_11 : decode cX3_advance 11 = .ok (.aload_n 0, 1) := by decide +kernel
theorem dX3_advance_12 : decode cX3_advance 12 = .ok (.aload_n 0, 1) := by decide +kernel
theorem dX3_advance_13 : decode cX3_advance 13 = .ok (.getfield 19, 3) := by decide +kernel
theorem dX3_advance_16 : decode cX3_advance 16 = .ok (.invokevirtual 35, 3) := by decide +kernel
theorem dX3_advance_19 : decode cX3_advance 19 = .ok (.invokestatic 39, 3) := by decide +kernel
theorem dX3_advance_22 : decode cX3_advance 22 = .ok (.ifCond .eq 16, 3) := by decide +kernel
theorem dX3_advance_25 : decode cX3_advance 25 = .ok (.aload_n 0, 1) := by decide +kernel
theorem dX3_advance_26 : decode cX3_advance 26 = .ok (.dup, 1) := by decide +kernel
theorem dX3_advance_27 : decode cX3_advance 27 = .ok (.getfield 19, 3) := by decide +kernel
theorem dX3_advance_30 : decode cX3_advance 30 = .ok (.iconst 1, 1) := by decide +kernel
theorem dX3_advance_31 : decode cX3_advance 31 = .ok (.iadd, 1) := by decide +kernel
theorem dX3_advance_32 : decode cX3_advance 32 = .ok (.putfield 19, 3) := by decide +kernel
theorem dX3_advance_35 : decode cX3_advance 35 = .ok (.goto (-35), 3) := by decide +kernel
theorem dX3_advance_38 : decode cX3_advance 38 = .ok (.aload_n 0, 1) := by decide +kernel
theorem dX3_advance_39 : decode cX3_advance 39 = .ok (.aload_n 0, 1) := by decide +kernel
theorem dX3_advance_40 : decode cX3_advance 40 = .ok (.getfield 19, 3) := by decide +kernel
theorem dX3_advance_43 : decode cX3_advance 43 = .ok (.putfield 13, 3) := by decide +kernel
theorem dX3_advance_46 : decode cX3_advance 46 = .ok (.aload_n 0, 1) := by decide +kernel
theorem dX3_advance_47 : decode cX3_advance 47 = .ok (.aload_n 0, 1) := by decide +kernel
theorem dX3_advance_48 : decode cX3_advance 48 = .ok (.getfield 19, 3) := by decide +kernel
theorem dX3_advance_51 : decode cX3_advance 51 = .ok (.invokevirtual 35, 3) := by decide +kernel
theorem dX3_advance_54 : decode cX3_advance 54 = .ok (.istore_n 1, 1) := by decide +kernel
theorem dX3_advance_55 : decode cX3_advance 55 = .ok (.aload_n 0, 1) := by decide +kernel
theorem dX3_advance_56 : decode cX3_advance 56 = .ok (.getfield 19, 3) := by decide +kernel
theorem dX3_advance_59 : decode cX3_advance 59 = .ok (.aload_n 0, 1) := by decide +kernel
theorem dX3_advance_60 : decode cX3_advance 60 = .ok (.getfield 32, 3) := by decide +kernel
theorem dX3_advance_63 : decode cX3_advance 63 = .ok (.if_icmp .lt 12, 3) := by decide +kernel
theorem dX3_advance_66 : decode cX3_advance 66 = .ok (.aload_n 0, 1) := by decide +kernel
theorem dX3_advance_67 : decode cX3_advance 67 = .ok (.bipush 27, 2) := by decide +kernel
theorem dX3_advance_69 : decode cX3_advance 69 = .ok (.putfield 9, 3) := by decide +kernel
theorem dX3_advance_72 : decode cX3_advance 72 = .ok (.goto 37, 3) := by decide +kernel
theorem dX3_advance_75 : decode cX3_advance 75 = .ok (.iload_n 1, 1) := by decide +kernel
theorem dX3_advance_76 : decode cX3_advance 76 = .ok (.invokestatic 43, 3) := by decide +kernel
theorem dX3_advance_79 : decode cX3_advance 79 = .ok (.ifCond .eq 10, 3) := by decide +kernel
theorem dX3_advance_82 : decode cX3_advance 82 = .ok (.aload_n 0, 1) := by decide +kernel
theorem dX3_advance_83 : decode cX3_advance 83 = .ok (.invokevirtual 46, 3) := by decide +kernel
theorem dX3_advance_86 : decode cX3_advance 86 = .ok (.goto 23, 3) := by decide +kernel
theorem dX3_advance_89 : decode cX3_advance 89 = .ok (.iload_n 1, 1) := by decide +kernel
theorem dX3_advance_90 : decode cX3_advance 90 = .ok (.invokestatic 49, 3) := by decide +kernel
theorem dX3_advance_93 : decode cX3_advance 93 = .ok (.ifCond .eq 10, 3) := by decide +kernel
theorem dX3_advance_96 : decode cX3_advance 96 = .ok (.aload_n 0, 1) := by decide +kernel
theorem dX3_advance_97 : decode cX3_advance 97 = .ok (.invokevirtual 52, 3) := by decide +kernel
theorem dX3_advance_100 : decode cX3_advance 100 = .ok (.goto 9, 3) := by decide +kernel
theorem dX3_advance_103 : decode cX3_advance 103 = .ok (.aload_n 0, 1) := by decide +kernel
theorem dX3_advance_104 : decode cX3_advance 104 = .ok (.iload_n 1, 1) := by decide +kernel
theorem dX3_advance_105 : decode cX3_advance 105 = .ok (.i2c, 1) := by decide +kernel
theorem dX3_advance_106 : decode cX3_advance 106 = .ok (.invokevirtual 55, 3) := by decide +kernel
theorem dX3_advance_109 : decode cX3_advance 109 = .ok (.return_, 1) := by decide +kernel
theorem dX3_scanWord_0 : decode cX3_scanWord 0 = .ok (.aload_n 0, 1) := by decide +kernel
theorem dX3_scanWord_1 : decode cX3_scanWord 1 = .ok (.getfield 19, 3) := by decide +kernel
theorem dX3_scanWord_4 : decode cX3_scanWord 4 = .ok (.aload_n 0, 1) := by decide +kernel
theorem dX3_scanWord_5 : decode cX3_scanWord 5 = .ok (.getfield 32, 3) := by decide +kernel
theorem dX3_scanWord_8 : decode cX3_scanWord 8 = .ok (.if_icmp .ge 30, 3) := by decide +kernel
theorem dX3_scanWord_11 : decode cX3_scanWord 11 = .ok (.aload_n 0, 1) := by decide +kernel
theorem dX3_scanWord_12 : decode cX3_scanWord 12 = .ok (.aload_n 0, 1) := by decide +kernel
theorem dX3_scanWord_13 : decode cX3_scanWord 13 = .ok (.getfield 19, 3) := by decide +kernel
theorem dX3_scanWord_16 : decode cX3_scanWord 16 = .ok (.invokevirtual 35, 3) := by decide +kernel
theorem dX3_scanWord_19 : decode cX3_scanWord 19 = .ok (.invokestatic 43, 3) := by decide +kernel
theorem dX3_scanWord_22 : decode cX3_scanWord 22 = .ok (.ifCond .eq 16, 3) := by decide +kernel
theorem dX3_scanWord_25 : decode cX3_scanWord 25 = .ok (.aload_n 0, 1) := by decide +kernel
theorem dX3_scanWord_26 : decode cX3_scanWord 26 = .ok (.dup, 1) := by decide +kernel
theorem dX3_scanWord_27 : decode cX3_scanWord 27 = .ok (.getfield 19, 3) := by decide +kernel
theorem dX3_scanWord_30 : decode cX3_scanWord 30 = .ok (.iconst 1, 1) := by decide +kernel
theorem dX3_scanWord_31 : decode cX3_scanWord 31 = .ok (.iadd, 1) := by decide +kernel
theorem dX3_scanWord_32 : decode cX3_scanWord 32 = .ok (.putfield 19, 3) := by decide +kernel
theorem dX3_scanWord_35 : decode cX3_scanWord 35 = .ok (.goto (-35), 3) := by decide +kernel
theorem dX3_scanWord_38 : decode cX3_scanWord 38 = .ok (.aload_n 0, 1) := by decide +kernel
theorem dX3_scanWord_39 : decode cX3_scanWord 39 = .ok (.aload_n 0, 1) := by decide +kernel
theorem dX3_scanWord_40 : decode cX3_scanWord 40 = .ok (.getfield 19, 3) := by decide +kernel
theorem dX3_scanWord_43 : decode cX3_scanWord 43 = .ok (.aload_n 0, 1) := by decide +kernel
theorem dX3_scanWord_44 : decode cX3_scanWord 44 = .ok (.getfield 13, 3) := by decide +kernel
theorem dX3_scanWord_47 : decode cX3_scanWord 47 = .ok (.isub, 1) := by decide +kernel
theorem dX3_scanWord_48 : decode cX3_scanWord 48 = .ok (.bipush 8, 2) := by decide +kernel
theorem dX3_scanWord_50 : decode cX3_scanWord 50 = .ok (.if_icmp .le 8, 3) := by decide +kernel
theorem dX3_scanWord_53 : decode cX3_scanWord 53 = .ok (.bipush 28, 2) := by decide +kernel
theorem dX3_scanWord_55 : decode cX3_scanWord 55 = .ok (.goto 7, 3) := by decide +kernel
theorem dX3_scanWord_58 : decode cX3_scanWord 58 = .ok (.aload_n 0, 1) := by decide +kernel
theorem dX3_scanWord_59 : decode cX3_scanWord 59 = .ok (.invokevirtual 59, 3) := by decide +kernel
theorem dX3_scanWord_62 : decode cX3_scanWord 62 = .ok (.putfield 9, 3) := by decide +kernel
theorem dX3_scanWord_65 : decode cX3_scanWord 65 = .ok (.return_, 1) := by decide +kernel
theorem dX3_scanNumber_0 : decode cX3_scanNumber 0 = .ok (.aload_n 0, 1) := by decide +kernel
theorem dX3_scanNumber_1 : decode cX3_scanNumber 1 = .ok (.iconst 0, 1) := by decide +kernel
theorem dX3_scanNumber_2 : decode cX3_scanNumber 2 = .ok (.putfield 16, 3) := by decide +kernel
theorem dX3_scanNumber_5 : decode cX3_scanNumber 5 = .ok (.aload_n 0, 1) := by decide +kernel
theorem dX3_scanNumber_6 : decode cX3_scanNumber 6 = .ok (.getfield 19, 3) := by decide +kernel
theorem dX3_scanNumber_9 : decode cX3_scanNumber 9 = .ok (.aload_n 0, 1) := by decide +kernel
theorem dX3_scanNumber_10 : decode cX3_scanNumber 10 = .ok (.getfield 32, 3) := by decide +kernel
theorem dX3_scanNumber_13 : decode cX3_scanNumber 13 = .ok (.if_icmp .ge 53, 3) := by decide +kernel
theorem dX3_scanNumber_16 : decode cX3_scanNumber 16 = .ok (.aload_n 0, 1) := by decide +kernel
theorem dX3_scanNumber_17 : decode cX3_scanNumber 17 = .ok (.aload_n 0, 1) := by decide +kernel
theorem dX3_scanNumber_18 : decode cX3_scanNumber 18 = .ok (.getfield 19, 3) := by decide +kernel
theorem dX3_scanNumber_21 : decode cX3_scanNumber 21 = .ok (.invokevirtual 35, 3) := by decide +kernel
theorem dX3_scanNumber_24 : decode cX3_scanNumber 24 = .ok (.invokestatic 49, 3) := by decide +kernel
theorem dX3_scanNumber_27 : decode cX3_scanNumber 27 = .ok (.ifCond .eq 39, 3) := by decide +kernel
theorem dX3_scanNumber_30 : decode cX3_scanNumber 30 = .ok (.aload_n 0, 1) := by decide +kernel
theorem dX3_scanNumber_31 : decode cX3_scanNumber 31 = .ok (.aload_n 0, 1) := by decide +kernel
theorem dX3_scanNumber_32 : decode cX3_scanNumber 32 = .ok (.getfield 16, 3) := by decide +kernel
theorem dX3_scanNumber_35 : decode cX3_scanNumber 35 = .ok (.bipush 10, 2) := by decide +kernel
theorem dX3_scanNumber_37 : decode cX3_scanNumber 37 = .ok (.imul, 1) := by decide +kernel
theorem dX3_scanNumber_38 : decode cX3_scanNumber 38 = .ok (.aload_n 0, 1) := by decide +kernel
theorem dX3_scanNumber_39 : decode cX3_scanNumber 39 = .ok (.aload_n 0, 1) := by decide +kernel
theorem dX3_scanNumber_40 : decode cX3_scanNumber 40 = .ok (.getfield 19, 3) := by decide +kernel
theorem dX3_scanNumber_43 : decode cX3_scanNumber 43 = .ok (.invokevirtual 35, 3) := by decide +kernel
theorem dX3_scanNumber_46 : decode cX3_scanNumber 46 = .ok (.bipush 48, 2) := by decide +kernel
theorem dX3_scanNumber_48 : decode cX3_scanNumber 48 = .ok (.isub, 1) := by decide +kernel
theorem dX3_scanNumber_49 : decode cX3_scanNumber 49 = .ok (.iadd, 1) := by decide +kernel
theorem dX3_scanNumber_50 : decode cX3_scanNumber 50 = .ok (.putfield 16, 3) := by decide +kernel
theorem dX3_scanNumber_53 : decode cX3_scanNumber 53 = .ok (.aload_n 0, 1) := by decide +kernel
theorem dX3_scanNumber_54 : decode cX3_scanNumber 54 = .ok (.dup, 1) := by decide +kernel
theorem dX3_scanNumber_55 : decode cX3_scanNumber 55 = .ok (.getfield 19, 3) := by decide +kernel
theorem dX3_scanNumber_58 : decode cX3_scanNumber 58 = .ok (.iconst 1, 1) := by decide +kernel
theorem dX3_scanNumber_59 : decode cX3_scanNumber 59 = .ok (.iadd, 1) := by decide +kernel
theorem dX3_scanNumber_60 : decode cX3_scanNumber 60 = .ok (.putfield 19, 3) := by decide +kernel
theorem dX3_scanNumber_63 : decode cX3_scanNumber 63 = .ok (.goto (-58), 3) := by decide +kernel
theorem dX3_scanNumber_66 : decode cX3_scanNumber 66 = .ok (.aload_n 0, 1) := by decide +kernel
theorem dX3_scanNumber_67 : decode cX3_scanNumber 67 = .ok (.getfield 19, 3) := by decide +kernel
theorem dX3_scanNumber_70 : decode cX3_scanNumber 70 = .ok (.aload_n 0, 1) := by decide +kernel
theorem dX3_scanNumber_71 : decode cX3_scanNumber 71 = .ok (.getfield 13, 3) := by decide +kernel
theorem dX3_scanNumber_74 : decode cX3_scanNumber 74 = .ok (.isub, 1) := by decide +kernel
theorem dX3_scanNumber_75 : decode cX3_scanNumber 75 = .ok (.bipush 6, 2) := by decide +kernel
theorem dX3_scanNumber_77 : decode cX3_scanNumber 77 = .ok (.if_icmp .gt 21, 3) := by decide +kernel
theorem dX3_scanNumber_80 : decode cX3_scanNumber 80 = .ok (.aload_n 0, 1) := by decide +kernel
theorem dX3_scanNumber_81 : decode cX3_scanNumber 81 = .ok (.aload_n 0, 1) := by decide +kernel
theorem dX3_scanNumber_82 : decode cX3_scanNumber 82 = .ok (.getfield 19, 3) := by decide +kernel
theorem dX3_scanNumber_85 : decode cX3_scanNumber 85 = .ok (.invokevirtual 35, 3) := by decide +kernel
theorem dX3_scanNumber_88 : decode cX3_scanNumber 88 = .ok (.invokestatic 43, 3) := by decide +kernel
theorem dX3_scanNumber_91 : decode cX3_scanNumber 91 = .ok (.ifCond .ne 7, 3) := by decide +kernel
theorem dX3_scanNumber_94 : decode cX3_scanNumber 94 = .ok (.iconst 1, 1) := by decide +kernel
theorem dX3_scanNumber_95 : decode cX3_scanNumber 95 = .ok (.goto 4, 3) := by decide +kernel
theorem dX3_scanNumber_98 : decode cX3_scanNumber 98 = .ok (.iconst 0, 1) := by decide +kernel
theorem dX3_scanNumber_99 : decode cX3_scanNumber 99 = .ok (.istore_n 1, 1) := by decide +kernel
theorem dX3_scanNumber_100 : decode cX3_scanNumber 100 = .ok (.aload_n 0, 1) := by decide +kernel
theorem dX3_scanNumber_101 : decode cX3_scanNumber 101 = .ok (.iload_n 1, 1) := by decide +kernel
theorem dX3_scanNumber_102 : decode cX3_scanNumber 102 = .ok (.ifCond .eq 8, 3) := by decide +kernel
theorem dX3_scanNumber_105 : decode cX3_scanNumber 105 = .ok (.bipush 25, 2) := by decide +kernel
theorem dX3_scanNumber_107 : decode cX3_scanNumber 107 = .ok (.goto 5, 3) := by decide +kernel
theorem dX3_scanNumber_110 : decode cX3_scanNumber 110 = .ok (.bipush 28, 2) := by decide +kernel
theorem dX3_scanNumber_112 : decode cX3_scanNumber 112 = .ok (.putfield 9, 3) := by decide +kernel
theorem dX3_scanNumber_115 : decode cX3_scanNumber 115 = .ok (.return_, 1) := by decide +kernel
theorem dX3_scanSign_0 : decode cX3_scanSign 0 = .ok (.ldc 63, 2) := by decide +kernel
theorem dX3_scanSign_2 : decode cX3_scanSign 2 = .ok (.iload_n 1, 1) := by decide +kernel
theorem dX3_scanSign_3 : decode cX3_scanSign 3 = .ok (.invokevirtual 65, 3) := by decide +kernel
theorem dX3_scanSign_6 : decode cX3_scanSign 6 = .ok (.istore_n 2, 1) := by decide +kernel
theorem dX3_scanSign_7 : decode cX3_scanSign 7 = .ok (.aload_n 0, 1) := by decide +kernel
theorem dX3_scanSign_8 : decode cX3_scanSign 8 = .ok (.iload_n 2, 1) := by decide +kernel
end
section
abbrev vwCl : List vw_C := [(RX0, TX0, 7), (RX1, TX1, 12), (RX2, TX2, 3), (RX3, TX3, 6), (RX4, TX4, 4), (RX5, TX5, 5), (RX6, TX6, 5), (RX7, TX7, 8), (RX8, TX8, 3), (RX9, TX9, 7), (RX10, TX10, 12), (RX11, TX11, 67)]
section BASE
/-! words that every method hands on -/
def gw_tbl : List Cond := lw_tbl.filter goodWord
theorem gw_in {w : Cond} (h : w ∈ lw_tbl) (hg : goodWord w = true) : w ∈ gw_tbl := List.mem_filter.mpr ⟨h, hg⟩
theorem gw_at {w : Cond} (i : Nat) (h : lw_tbl[i]? = some w) (hg : goodWord w = true) : w ∈ gw_tbl := gw_in (List.mem_of_getElem? h) hg
theorem gw_good : ∀ w ∈ gw_tbl, goodWord w = true := fun w h => (List.mem_filter.mp h).2
theorem gw_lw : ∀ w ∈ gw_tbl, w ∈ lw_tbl := fun w h => (List.mem_filter.mp h).1
theorem gw_GoodIn {ws : List Cond} (h : ∀ w ∈ ws, w ∈ gw_tbl) : GoodIn gw_tbl ws := fun w hw => ⟨h w hw, good_of_word (gw_good w (h w hw))⟩
abbrev gws (y : MethodName) (b : ByteArray) (n : Nat) (r : Option FieldType) : List Cond := .code y b n r :: gw_tbl
theorem gw_gws {y : MethodName} {b : ByteArray} {n : Nat} {r : Option FieldType} (h : Cond.code y b n r ∈ gw_tbl) : ∀ w ∈ gws y b n r, w ∈ gw_tbl := fun w hw => (List.mem_cons.mp hw).elim (fun e => e ▸ h) id
theorem gw_V {own C : String} {idx : Nat} {y : MethodName} {b : ByteArray} {n : Nat} {r : Option FieldType} (h1 : Cond.methodLink own idx y ∈ gw_tbl) (h2 : Cond.instanceMethod y ∈ gw_tbl) (h3 : Cond.selects C y y ∈ gw_tbl) (h4 : Cond.initialized C ∈ gw_tbl) (h5 : Cond.code y b n r ∈ gw_tbl) : GoodIn gw_tbl (wsV own idx C y (gws y b n r)) := gw_GoodIn (fun w hw => by
  unfold wsV at hw
  rcases List.mem_append.mp hw with hw | hw
  · simp only [List.mem_cons, List.not_mem_nil, or_false] at hw
    rcases hw with rfl | rfl | rfl | rfl <;> assumption
  · exact gw_gws h5 w hw)
theorem gw_S {own : String} {idx : Nat} {y : MethodName} {b : ByteArray} {n : Nat} {r : Option FieldType} (h1 : Cond.methodLink own idx y ∈ gw_tbl) (h2 : Cond.static y ∈ gw_tbl) (h4 : Cond.initialized y.cls ∈ gw_tbl) (h5 : Cond.code y b n r ∈ gw_tbl) : GoodIn gw_tbl (va_wsS own idx y (gws y b n r)) := gw_GoodIn (fun w hw => by
  unfold va_wsS at hw
  rcases List.mem_append.mp hw with hw | hw
  · simp only [List.mem_cons, List.not_mem_nil, or_false] at hw
    rcases hw with rfl | rfl | rfl <;> assumption
  · exact gw_gws h5 w hw)
/-! the state -/
abbrev Cx : Type := va_G × ClassId × ClassId × ClassId × ClassId
def gtys (g : Cx) : List (ClassId × FieldType) := [(g.2.1, .byte), (g.2.2.1, .int), (g.2.2.2.1, .boolean), (g.2.2.2.2, .object "DroveRoads$Herd")]
abbrev St : Type := (Nat → Nat → Int32) × (Nat → Nat → Option Nat) × (Nat → Int64)
def gv (S : St) (o k : Nat) : Int32 := S.1 o k
def gr (S : St) (o k : Nat) : Option Nat := S.2.1 o k
def gl (S : St) (o : Nat) : Int64 := S.2.2 o
def up2 {α : Type} (f : Nat → Nat → α) (o k : Nat) (x : α) : Nat → Nat → α := fun a => if a = o then va_up (f o) k x else f a
def sv (S : St) (o k : Nat) (x : Int32) : St := (up2 S.1 o k x, S.2)
def sr (S : St) (o k : Nat) (x : Option Nat) : St := (S.1, up2 S.2.1 o k x, S.2.2)
def sl (S : St) (o : Nat) (x : Int64) : St := (S.1, S.2.1, va_up S.2.2 o x)
theorem up2_at {α : Type} (f : Nat → Nat → α) (o k : Nat) (x : α) : up2 f o k x o = va_up (f o) k x := if_pos rfl
theorem up2_ne {α : Type} (f : Nat → Nat → α) {o a : Nat} (k : Nat) (x : α) (h : a ≠ o) : up2 f o k x a = f a := if_neg h
/-! the cells by their logical numbers -/
def kal (o : Nat) : Nat := if o < 20 then 10 else if o < 30 then 30 else if o < 40 then 20 else if o < 50 then 60 else if o = 50 then 9 else 80
def mal (k : Nat) : Nat := if k ≤ 6 then 10 else if k ≤ 9 then 30 else if k ≤ 21 then 6 else if k ≤ 23 then 3000 else if k ≤ 24 then 60 else if k ≤ 26 then 48 else if k ≤ 27 then 6 else if k ≤ 29 then 500 else if k ≤ 30 then 10 else if k ≤ 32 then 8 else if k ≤ 36 then 500 else if k ≤ 46 then 400 else if k ≤ 49 then 300 else if k ≤ 50 then 9 else if k ≤ 53 then 244000 else if k ≤ 60 then 20 else 60
def kc (g : Cx) (ad : Nat → Nat) (o : Nat) (V : Nat → Int32) (R : Nat → Option Nat) (J : Int64) : va_E :=
  if o < 60 then
    if o < 8 then
      if o = 0 then .inr (10, [.ref (ad 1), .ref (ad 2), .ref (ad 3), .ref (ad 6), .ref (ad 7), .ref (ad 5), va_re ad (R 6), .int (V 7), .int (V 8), .int (V 9), .int (V 10), .int (V 11)])
      else if o = 1 then .inr (9, [.int (V 0), .ref (ad 11), .ref (ad 12), .ref (ad 13), .ref (ad 14), .ref (ad 15), .ref (ad 16)])
      else if o = 2 then .inr (2, [.int (V 0), .ref (ad 21), .ref (ad 22)])
      else if o = 3 then .inr (0, [.int (V 0), .ref (ad 4), .ref (ad 32), .ref (ad 33), .ref (ad 34), .ref (ad 35), .ref (ad 36)])
      else if o = 4 then .inr (7, [.int (V 0), .ref (ad 41), .ref (ad 42), .ref (ad 43), .ref (ad 44), .ref (ad 45), .ref (ad 46), .ref (ad 47)])
      else if o = 5 then .inr (8, [.ref (ad 50), .ref (ad 51), .int (V 2)])
      else if o = 6 then .inl (g.2.2.2.2, 6, .inr (.inr (.inr (.inr (fun i => (R i).map ad)))))
      else .inl (g.2.1, 500, .inl V)
    else .inl (g.2.2.1, kal o, .inl V)
  else if o < 66 then .inr (1, [.int (V 0), .int (V 1), .int (V 2), .int (V 3), .int (V 4), .int (V 5), va_re ad (R 6), .int (V 7), .int (V 8), .int (V 9), .int (V 10), .int (V 11)])
  else if o < 77 then .inr (5, [.ref (ad (o + 10)), .ref (ad (o + 20)), .ref (ad (o + 30)), .int (V 3), .int (V 4)])
  else if o < 87 then .inl (g.2.2.1, 500, .inl V)
  else if o < 107 then .inl (g.2.2.1, 8, .inl V)
  else if o < 111 then .inr (6, [.int (V 0), .int (V 1), .ref (ad 111), va_re ad (R 3), .int (V 4)])
  else if o < 112 then .inr (3, [.int (V 0), .int (V 1), .int (V 2), .ref (ad 7), .int (V 4), .int (V 5)])
  else if o < 113 then .inr (4, [.int (V 0), .ref (ad 1), .int (V 2), .int (V 3)])
  else if o < 201 then .inr (11, [.int (V 0), .int (V 1), .ref (ad 203), .ref (ad 204), .ref (ad 205), .ref (ad 206), .ref (ad 207), .int (V 7), .ref (ad 209), .ref (ad 210), .int (V 10), .ref (ad 212), .ref (ad 213), .ref (ad 214), .ref (ad 215), .ref (ad 216), .ref (ad 217), .ref (ad 218), .ref (ad 219), .ref (ad 220), .ref (ad 221), .ref (ad 222), .ref (ad 223), .ref (ad 224), .ref (ad 225), .ref (ad 226), .ref (ad 227), .ref (ad 228), .ref (ad 229), .ref (ad 230), .ref (ad 231), .ref (ad 232), .ref (ad 233), .int (V 33), .int (V 34), .int (V 35), .ref (ad 237), .int (V 37), .int (V 38), .int (V 39), .int (V 40), .int (V 41), .int (V 42), .int (V 43), .int (V 44), .long J, .ref (ad 247), .int (V 47), .int (V 48), .ref (ad 250), .ref (ad 251), .ref (ad 252), .ref (ad 253), .ref (ad 254), .int (V 54), .int (V 55), .ref (ad 257), .ref (ad 258), .ref (ad 259), .ref (ad 260), .ref (ad 261), .ref (ad 262), .ref (ad 263), .ref (ad 264), .ref (ad 265), .ref (ad 266), .ref (ad 267)])
  else if o = 254 then .inl (g.2.2.2.1, 244000, .inl V)
  else .inl (g.2.2.1, mal (o - 201), .inl V)
def cellOf (g : Cx) (ad : Nat → Nat) (S : St) (o : Nat) : va_E := kc g ad o (S.1 o) (S.2.1 o) (S.2.2 o)
/-- which cells there always are -/
def bsl : List Nat := [0, 1, 2, 3, 4, 5, 6, 7, 11, 12, 13, 14, 15, 16, 21, 22, 32, 33, 34, 35, 36, 41, 42, 43, 44, 45, 46, 47, 50, 51, 200, 203, 204, 205, 206, 207, 209, 210, 212, 213, 214, 215, 216, 217, 218, 219, 220, 221, 222, 223, 224, 225, 226, 227, 228, 229, 230, 231, 232, 233, 237, 247, 250, 251, 252, 253, 254, 257, 258, 259, 260, 261, 262, 263, 264, 265, 266, 267]
def Lk (L : List Nat) : Prop := ∀ x ∈ bsl, x ∈ L
abbrev okh (L : List Nat) (x : Nat) : Prop := 60 ≤ x ∧ x < 66 ∧ x ∈ L
abbrev oko (L : List Nat) (x : Nat) : Prop := 70 ≤ x ∧ x < 77 ∧ x ∈ L ∧ x + 10 ∈ L ∧ x + 20 ∈ L ∧ x + 30 ∈ L
theorem kd_herd {g : Cx} {ad : Nat → Nat} {S : St} {L : List Nat} {o : Nat} (h : okh L o) : cellOf g ad S o = .inr (1, [.int (gv S o 0), .int (gv S o 1), .int (gv S o 2), .int (gv S o 3), .int (gv S o 4), .int (gv S o 5), va_re ad (gr S o 6), .int (gv S o 7), .int (gv S o 8), .int (gv S o 9), .int (gv S o 10), .int (gv S o 11)]) := by
  obtain ⟨h1, h2, -⟩ := h
  unfold cellOf kc
  rw [if_neg (by omega), if_pos h2]
  rfl
theorem kd_ord {g : Cx} {ad : Nat → Nat} {S : St} {L : List Nat} {o : Nat} (h : oko L o) : cellOf g ad S o = .inr (5, [.ref (ad (o + 10)), .ref (ad (o + 20)), .ref (ad (o + 30)), .int (gv S o 3), .int (gv S o 4)]) := by
  obtain ⟨h1, h2, -⟩ := h
  unfold cellOf kc
  rw [if_neg (by omega), if_neg (by omega), if_pos h2]
  rfl
theorem kd_ordA {g : Cx} {ad : Nat → Nat} {S : St} {L : List Nat} {o : Nat} (h : oko L o) : cellOf g ad S (o + 10) = .inl (g.2.2.1, 500, .inl (S.1 (o + 10))) := by
  obtain ⟨h1, h2, -⟩ := h
  unfold cellOf kc
  rw [if_neg (by omega), if_neg (by omega), if_neg (by omega), if_pos (by omega)]
theorem kd_ordB {g : Cx} {ad : Nat → Nat} {S : St} {L : List Nat} {o : Nat} (h : oko L o) : cellOf g ad S (o + 20) = .inl (g.2.2.1, 8, .inl (S.1 (o + 20))) := by
  obtain ⟨h1, h2, -⟩ := h
  unfold cellOf kc
  rw [if_neg (by omega), if_neg (by omega), if_neg (by omega), if_neg (by omega), if_pos (by omega)]
theorem kd_ordC {g : Cx} {ad : Nat → Nat} {S : St} {L : List Nat} {o : Nat} (h : oko L o) : cellOf g ad S (o + 30) = .inl (g.2.2.1, 8, .inl (S.1 (o + 30))) := by
  obtain ⟨h1, h2, -⟩ := h
  unfold cellOf kc
  rw [if_neg (by omega), if_neg (by omega), if_neg (by omega), if_neg (by omega), if_pos (by omega)]
theorem kd_0 {g : Cx} {ad : Nat → Nat} {S : St} : cellOf g ad S 0 = .inr (10, [.ref (ad 1), .ref (ad 2), .ref (ad 3), .ref (ad 6), .ref (ad 7), .ref (ad 5), va_re ad (gr S 0 6), .int (gv S 0 7), .int (gv S 0 8), .int (gv S 0 9), .int (gv S 0 10), .int (gv S 0 11)]) := rfl
theorem kd_1 {g : Cx} {ad : Nat → Nat} {S : St} : cellOf g ad S 1 = .inr (9, [.int (gv S 1 0), .ref (ad 11), .ref (ad 12), .ref (ad 13), .ref (ad 14), .ref (ad 15), .ref (ad 16)]) := rfl
theorem kd_2 {g : Cx} {ad : Nat → Nat} {S : St} : cellOf g ad S 2 = .inr (2, [.int (gv S 2 0), .ref (ad 21), .ref (ad 22)]) := rfl
theorem kd_3 {g : Cx} {ad : Nat → Nat} {S : St} : cellOf g ad S 3 = .inr (0, [.int (gv S 3 0), .ref (ad 4), .ref (ad 32), .ref (ad 33), .ref (ad 34), .ref (ad 35), .ref (ad 36)]) := rfl
theorem kd_4 {g : Cx} {ad : Nat → Nat} {S : St} : cellOf g ad S 4 = .inr (7, [.int (gv S 4 0), .ref (ad 41), .ref (ad 42), .ref (ad 43), .ref (ad 44), .ref (ad 45), .ref (ad 46), .ref (ad 47)]) := rfl
theorem kd_5 {g : Cx} {ad : Nat → Nat} {S : St} : cellOf g ad S 5 = .inr (8, [.ref (ad 50), .ref (ad 51), .int (gv S 5 2)]) := rfl
theorem kd_110 {g : Cx} {ad : Nat → Nat} {S : St} : cellOf g ad S 110 = .inr (6, [.int (gv S 110 0), .int (gv S 110 1), .ref (ad 111), va_re ad (gr S 110 3), .int (gv S 110 4)]) := rfl
theorem kd_111 {g : Cx} {ad : Nat → Nat} {S : St} : cellOf g ad S 111 = .inr (3, [.int (gv S 111 0), .int (gv S 111 1), .int (gv S 111 2), .ref (ad 7), .int (gv S 111 4), .int (gv S 111 5)]) := rfl
theorem kd_112 {g : Cx} {ad : Nat → Nat} {S : St} : cellOf g ad S 112 = .inr (4, [.int (gv S 112 0), .ref (ad 1), .int (gv S 112 2), .int (gv S 112 3)]) := rfl
theorem kd_200 {g : Cx} {ad : Nat → Nat} {S : St} : cellOf g ad S 200 = .inr (11, [.int (gv S 200 0), .int (gv S 200 1), .ref (ad 203), .ref (ad 204), .ref (ad 205), .ref (ad 206), .ref (ad 207), .int (gv S 200 7), .ref (ad 209), .ref (ad 210), .int (gv S 200 10), .ref (ad 212), .ref (ad 213), .ref (ad 214), .ref (ad 215), .ref (ad 216), .ref (ad 217), .ref (ad 218), .ref (ad 219), .ref (ad 220), .ref (ad 221), .ref (ad 222), .ref (ad 223), .ref (ad 224), .ref (ad 225), .ref (ad 226), .ref (ad 227), .ref (ad 228), .ref (ad 229), .ref (ad 230), .ref (ad 231), .ref (ad 232), .ref (ad 233), .int (gv S 200 33), .int (gv S 200 34), .int (gv S 200 35), .ref (ad 237), .int (gv S 200 37), .int (gv S 200 38), .int (gv S 200 39), .int (gv S 200 40), .int (gv S 200 41), .int (gv S 200 42), .int (gv S 200 43), .int (gv S 200 44), .long (gl S 200), .ref (ad 247), .int (gv S 200 47), .int (gv S 200 48), .ref (ad 250), .ref (ad 251), .ref (ad 252), .ref (ad 253), .ref (ad 254), .int (gv S 200 54), .int (gv S 200 55), .ref (ad 257), .ref (ad 258), .ref (ad 259), .ref (ad 260), .ref (ad 261), .ref (ad 262), .ref (ad 263), .ref (ad 264), .ref (ad 265), .ref (ad 266), .ref (ad 267)]) := rfl
theorem kd_11 {g : Cx} {ad : Nat → Nat} {S : St} : cellOf g ad S 11 = .inl (g.2.2.1, 10, .inl (S.1 11)) := rfl
theorem kd_12 {g : Cx} {ad : Nat → Nat} {S : St} : cellOf g ad S 12 = .inl (g.2.2.1, 10, .inl (S.1 12)) := rfl
theorem kd_13 {g : Cx} {ad : Nat → Nat} {S : St} : cellOf g ad S 13 = .inl (g.2.2.1, 10, .inl (S.1 13)) := rfl
theorem kd_14 {g : Cx} {ad : Nat → Nat} {S : St} : cellOf g ad S 14 = .inl (g.2.2.1, 10, .inl (S.1 14)) := rfl
theorem kd_15 {g : Cx} {ad : Nat → Nat} {S : St} : cellOf g ad S 15 = .inl (g.2.2.1, 10, .inl (S.1 15)) := rfl
theorem kd_16 {g : Cx} {ad : Nat → Nat} {S : St} : cellOf g ad S 16 = .inl (g.2.2.1, 10, .inl (S.1 16)) := rfl
theorem kd_21 {g : Cx} {ad : Nat → Nat} {S : St} : cellOf g ad S 21 = .inl (g.2.2.1, 30, .inl (S.1 21)) := rfl
theorem kd_22 {g : Cx} {ad : Nat → Nat} {S : St} : cellOf g ad S 22 = .inl (g.2.2.1, 30, .inl (S.1 22)) := rfl
theorem kd_32 {g : Cx} {ad : Nat → Nat} {S : St} : cellOf g ad S 32 = .inl (g.2.2.1, 20, .inl (S.1 32)) := rfl
theorem kd_33 {g : Cx} {ad : Nat → Nat} {S : St} : cellOf g ad S 33 = .inl (g.2.2.1, 20, .inl (S.1 33)) := rfl
theorem kd_34 {g : Cx} {ad : Nat → Nat} {S : St} : cellOf g ad S 34 = .inl (g.2.2.1, 20, .inl (S.1 34)) := rfl
theorem kd_35 {g : Cx} {ad : Nat → Nat} {S : St} : cellOf g ad S 35 = .inl (g.2.2.1, 20, .inl (S.1 35)) := rfl
theorem kd_36 {g : Cx} {ad : Nat → Nat} {S : St} : cellOf g ad S 36 = .inl (g.2.2.1, 20, .inl (S.1 36)) := rfl
theorem kd_41 {g : Cx} {ad : Nat → Nat} {S : St} : cellOf g ad S 41 = .inl (g.2.2.1, 60, .inl (S.1 41)) := rfl
theorem kd_42 {g : Cx} {ad : Nat → Nat} {S : St} : cellOf g ad S 42 = .inl (g.2.2.1, 60, .inl (S.1 42)) := rfl
theorem kd_43 {g : Cx} {ad : Nat → Nat} {S : St} : cellOf g ad S 43 = .inl (g.2.2.1, 60, .inl (S.1 43)) := rfl
theorem kd_44 {g : Cx} {ad : Nat → Nat} {S : St} : cellOf g ad S 44 = .inl (g.2.2.1, 60, .inl (S.1 44)) := rfl
theorem kd_45 {g : Cx} {ad : Nat → Nat} {S : St} : cellOf g ad S 45 = .inl (g.2.2.1, 60, .inl (S.1 45)) := rfl
theorem kd_46 {g : Cx} {ad : Nat → Nat} {S : St} : cellOf g ad S 46 = .inl (g.2.2.1, 60, .inl (S.1 46)) := rfl
theorem kd_47 {g : Cx} {ad : Nat → Nat} {S : St} : cellOf g ad S 47 = .inl (g.2.2.1, 60, .inl (S.1 47)) := rfl
theorem kd_50 {g : Cx} {ad : Nat → Nat} {S : St} : cellOf g ad S 50 = .inl (g.2.2.1, 9, .inl (S.1 50)) := rfl
theorem kd_51 {g : Cx} {ad : Nat → Nat} {S : St} : cellOf g ad S 51 = .inl (g.2.2.1, 80, .inl (S.1 51)) := rfl
theorem kd_203 {g : Cx} {ad : Nat → Nat} {S : St} : cellOf g ad S 203 = .inl (g.2.2.1, 10, .inl (S.1 203)) := rfl
theorem kd_204 {g : Cx} {ad : Nat → Nat} {S : St} : cellOf g ad S 204 = .inl (g.2.2.1, 10, .inl (S.1 204)) := rfl
theorem kd_205 {g : Cx} {ad : Nat → Nat} {S : St} : cellOf g ad S 205 = .inl (g.2.2.1, 10, .inl (S.1 205)) := rfl
theorem kd_206 {g : Cx} {ad : Nat → Nat} {S : St} : cellOf g ad S 206 = .inl (g.2.2.1, 10, .inl (S.1 206)) := rfl
theorem kd_207 {g : Cx} {ad : Nat → Nat} {S : St} : cellOf g ad S 207 = .inl (g.2.2.1, 10, .inl (S.1 207)) := rfl
theorem kd_209 {g : Cx} {ad : Nat → Nat} {S : St} : cellOf g ad S 209 = .inl (g.2.2.1, 30, .inl (S.1 209)) := rfl
theorem kd_210 {g : Cx} {ad : Nat → Nat} {S : St} : cellOf g ad S 210 = .inl (g.2.2.1, 30, .inl (S.1 210)) := rfl
theorem kd_212 {g : Cx} {ad : Nat → Nat} {S : St} : cellOf g ad S 212 = .inl (g.2.2.1, 6, .inl (S.1 212)) := rfl
theorem kd_213 {g : Cx} {ad : Nat → Nat} {S : St} : cellOf g ad S 213 = .inl (g.2.2.1, 6, .inl (S.1 213)) := rfl
theorem kd_214 {g : Cx} {ad : Nat → Nat} {S : St} : cellOf g ad S 214 = .inl (g.2.2.1, 6, .inl (S.1 214)) := rfl
theorem kd_215 {g : Cx} {ad : Nat → Nat} {S : St} : cellOf g ad S 215 = .inl (g.2.2.1, 6, .inl (S.1 215)) := rfl
theorem kd_216 {g : Cx} {ad : Nat → Nat} {S : St} : cellOf g ad S 216 = .inl (g.2.2.1, 6, .inl (S.1 216)) := rfl
theorem kd_217 {g : Cx} {ad : Nat → Nat} {S : St} : cellOf g ad S 217 = .inl (g.2.2.1, 6, .inl (S.1 217)) := rfl
theorem kd_218 {g : Cx} {ad : Nat → Nat} {S : St} : cellOf g ad S 218 = .inl (g.2.2.1, 6, .inl (S.1 218)) := rfl
theorem kd_219 {g : Cx} {ad : Nat → Nat} {S : St} : cellOf g ad S 219 = .inl (g.2.2.1, 6, .inl (S.1 219)) := rfl
theorem kd_220 {g : Cx} {ad : Nat → Nat} {S : St} : cellOf g ad S 220 = .inl (g.2.2.1, 6, .inl (S.1 220)) := rfl
theorem kd_221 {g : Cx} {ad : Nat → Nat} {S : St} : cellOf g ad S 221 = .inl (g.2.2.1, 6, .inl (S.1 221)) := rfl
theorem kd_222 {g : Cx} {ad : Nat → Nat} {S : St} : cellOf g ad S 222 = .inl (g.2.2.1, 6, .inl (S.1 222)) := rfl
theorem kd_223 {g : Cx} {ad : Nat → Nat} {S : St} : cellOf g ad S 223 = .inl (g.2.2.1, 3000, .inl (S.1 223)) := rfl
theorem kd_224 {g : Cx} {ad : Nat → Nat} {S : St} : cellOf g ad S 224 = .inl (g.2.2.1, 3000, .inl (S.1 224)) := rfl
theorem kd_225 {g : Cx} {ad : Nat → Nat} {S : St} : cellOf g ad S 225 = .inl (g.2.2.1, 60, .inl (S.1 225)) := rfl
theorem kd_226 {g : Cx} {ad : Nat → Nat} {S : St} : cellOf g ad S 226 = .inl (g.2.2.1, 48, .inl (S.1 226)) := rfl
theorem kd_227 {g : Cx} {ad : Nat → Nat} {S : St} : cellOf g ad S 227 = .inl (g.2.2.1, 48, .inl (S.1 227)) := rfl
theorem kd_228 {g : Cx} {ad : Nat → Nat} {S : St} : cellOf g ad S 228 = .inl (g.2.2.1, 6, .inl (S.1 228)) := rfl
theorem kd_229 {g : Cx} {ad : Nat → Nat} {S : St} : cellOf g ad S 229 = .inl (g.2.2.1, 500, .inl (S.1 229)) := rfl
theorem kd_230 {g : Cx} {ad : Nat → Nat} {S : St} : cellOf g ad S 230 = .inl (g.2.2.1, 500, .inl (S.1 230)) := rfl
theorem kd_231 {g : Cx} {ad : Nat → Nat} {S : St} : cellOf g ad S 231 = .inl (g.2.2.1, 10, .inl (S.1 231)) := rfl
theorem kd_232 {g : Cx} {ad : Nat → Nat} {S : St} : cellOf g ad S 232 = .inl (g.2.2.1, 8, .inl (S.1 232)) := rfl
theorem kd_233 {g : Cx} {ad : Nat → Nat} {S : St} : cellOf g ad S 233 = .inl (g.2.2.1, 8, .inl (S.1 233)) := rfl
theorem kd_237 {g : Cx} {ad : Nat → Nat} {S : St} : cellOf g ad S 237 = .inl (g.2.2.1, 500, .inl (S.1 237)) := rfl
theorem kd_247 {g : Cx} {ad : Nat → Nat} {S : St} : cellOf g ad S 247 = .inl (g.2.2.1, 400, .inl (S.1 247)) := rfl
theorem kd_250 {g : Cx} {ad : Nat → Nat} {S : St} : cellOf g ad S 250 = .inl (g.2.2.1, 300, .inl (S.1 250)) := rfl
theorem kd_251 {g : Cx} {ad : Nat → Nat} {S : St} : cellOf g ad S 251 = .inl (g.2.2.1, 9, .inl (S.1 251)) := rfl
theorem kd_252 {g : Cx} {ad : Nat → Nat} {S : St} : cellOf g ad S 252 = .inl (g.2.2.1, 244000, .inl (S.1 252)) := rfl
theorem kd_253 {g : Cx} {ad : Nat → Nat} {S : St} : cellOf g ad S 253 = .inl (g.2.2.1, 244000, .inl (S.1 253)) := rfl
theorem kd_254 {g : Cx} {ad : Nat → Nat} {S : St} : cellOf g ad S 254 = .inl (g.2.2.2.1, 244000, .inl (S.1 254)) := rfl
theorem kd_257 {g : Cx} {ad : Nat → Nat} {S : St} : cellOf g ad S 257 = .inl (g.2.2.1, 20, .inl (S.1 257)) := rfl
theorem kd_258 {g : Cx} {ad : Nat → Nat} {S : St} : cellOf g ad S 258 = .inl (g.2.2.1, 20, .inl (S.1 258)) := rfl
theorem kd_259 {g : Cx} {ad : Nat → Nat} {S : St} : cellOf g ad S 259 = .inl (g.2.2.1, 20, .inl (S.1 259)) := rfl
theorem kd_260 {g : Cx} {ad : Nat → Nat} {S : St} : cellOf g ad S 260 = .inl (g.2.2.1, 20, .inl (S.1 260)) := rfl
theorem kd_261 {g : Cx} {ad : Nat → Nat} {S : St} : cellOf g ad S 261 = .inl (g.2.2.1, 20, .inl (S.1 261)) := rfl
theorem kd_262 {g : Cx} {ad : Nat → Nat} {S : St} : cellOf g ad S 262 = .inl (g.2.2.1, 60, .inl (S.1 262)) := rfl
theorem kd_263 {g : Cx} {ad : Nat → Nat} {S : St} : cellOf g ad S 263 = .inl (g.2.2.1, 60, .inl (S.1 263)) := rfl
theorem kd_264 {g : Cx} {ad : Nat → Nat} {S : St} : cellOf g ad S 264 = .inl (g.2.2.1, 60, .inl (S.1 264)) := rfl
theorem kd_265 {g : Cx} {ad : Nat → Nat} {S : St} : cellOf g ad S 265 = .inl (g.2.2.1, 60, .inl (S.1 265)) := rfl
theorem kd_266 {g : Cx} {ad : Nat → Nat} {S : St} : cellOf g ad S 266 = .inl (g.2.2.1, 60, .inl (S.1 266)) := rfl
theorem kd_267 {g : Cx} {ad : Nat → Nat} {S : St} : cellOf g ad S 267 = .inl (g.2.2.1, 60, .inl (S.1 267)) := rfl
theorem kd_7 {g : Cx} {ad : Nat → Nat} {S : St} : cellOf g ad S 7 = .inl (g.2.1, 500, .inl (S.1 7)) := rfl
theorem bb_0 : 0 ∈ bsl := by decide
theorem bb_1 : 1 ∈ bsl := by decide
theorem bb_2 : 2 ∈ bsl := by decide
theorem bb_3 : 3 ∈ bsl := by decide
theorem bb_4 : 4 ∈ bsl := by decide
theorem bb_5 : 5 ∈ bsl := by decide
theorem bb_6 : 6 ∈ bsl := by decide
theorem bb_7 : 7 ∈ bsl := by decide
theorem bb_11 : 11 ∈ bsl := by decide
theorem bb_12 : 12 ∈ bsl := by decide
theorem bb_13 : 13 ∈ bsl := by decide
theorem bb_14 : 14 ∈ bsl := by decide
theorem bb_15 : 15 ∈ bsl := by decide
theorem bb_16 : 16 ∈ bsl := by decide
theorem bb_21 : 21 ∈ bsl := by decide
theorem bb_22 : 22 ∈ bsl := by decide
theorem bb_32 : 32 ∈ bsl := by decide
theorem bb_33 : 33 ∈ bsl := by decide
theorem bb_34 : 34 ∈ bsl := by decide
theorem bb_35 : 35 ∈ bsl := by decide
theorem bb_36 : 36 ∈ bsl := by decide
theorem bb_41 : 41 ∈ bsl := by decide
theorem bb_42 : 42 ∈ bsl := by decide
theorem bb_43 : 43 ∈ bsl := by decide
theorem bb_44 : 44 ∈ bsl := by decide
theorem bb_45 : 45 ∈ bsl := by decide
theorem bb_46 : 46 ∈ bsl := by decide
theorem bb_47 : 47 ∈ bsl := by decide
theorem bb_50 : 50 ∈ bsl := by decide
theorem bb_51 : 51 ∈ bsl := by decide
theorem bb_200 : 200 ∈ bsl := by decide
theorem bb_203 : 203 ∈ bsl := by decide
theorem bb_204 : 204 ∈ bsl := by decide
theorem bb_205 : 205 ∈ bsl := by decide
theorem bb_206 : 206 ∈ bsl := by decide
theorem bb_207 : 207 ∈ bsl := by decide
theorem bb_209 : 209 ∈ bsl := by decide
theorem bb_210 : 210 ∈ bsl := by decide
theorem bb_212 : 212 ∈ bsl := by decide
theorem bb_213 : 213 ∈ bsl := by decide
theorem bb_214 : 214 ∈ bsl := by decide
theorem bb_215 : 215 ∈ bsl := by decide
theorem bb_216 : 216 ∈ bsl := by decide
theorem bb_217 : 217 ∈ bsl := by decide
theorem bb_218 : 218 ∈ bsl := by decide
theorem bb_219 : 219 ∈ bsl := by decide
theorem bb_220 : 220 ∈ bsl := by decide
theorem bb_221 : 221 ∈ bsl := by decide
theorem bb_222 : 222 ∈ bsl := by decide
theorem bb_223 : 223 ∈ bsl := by decide
theorem bb_224 : 224 ∈ bsl := by decide
theorem bb_225 : 225 ∈ bsl := by decide
theorem bb_226 : 226 ∈ bsl := by decide
theorem bb_227 : 227 ∈ bsl := by decide
theorem bb_228 : 228 ∈ bsl := by decide
theorem bb_229 : 229 ∈ bsl := by decide
theorem bb_230 : 230 ∈ bsl := by decide
theorem bb_231 : 231 ∈ bsl := by decide
theorem bb_232 : 232 ∈ bsl := by decide
theorem bb_233 : 233 ∈ bsl := by decide
theorem bb_237 : 237 ∈ bsl := by decide
theorem bb_247 : 247 ∈ bsl := by decide
theorem bb_250 : 250 ∈ bsl := by decide
theorem bb_251 : 251 ∈ bsl := by decide
theorem bb_252 : 252 ∈ bsl := by decide
theorem bb_253 : 253 ∈ bsl := by decide
theorem bb_254 : 254 ∈ bsl := by decide
theorem bb_257 : 257 ∈ bsl := by decide
theorem bb_258 : 258 ∈ bsl := by decide
theorem bb_259 : 259 ∈ bsl := by decide
theorem bb_260 : 260 ∈ bsl := by decide
theorem bb_261 : 261 ∈ bsl := by decide
theorem bb_262 : 262 ∈ bsl := by decide
theorem bb_263 : 263 ∈ bsl := by decide
theorem bb_264 : 264 ∈ bsl := by decide
theorem bb_265 : 265 ∈ bsl := by decide
theorem bb_266 : 266 ∈ bsl := by decide
theorem bb_267 : 267 ∈ bsl := by decide
/-! the world -/
def gls (g : Cx) (ad : Nat → Nat) (L : List Nat) (S : St) : va_W := L.map fun o => (ad o, cellOf g ad S o)
def GW (g : Cx) (A : Nat → Prop) (ad : Nat → Nat) (L : List Nat) (S : St) (H : Heap) : Prop := va_P g.1 vwCl (gls g ad L S) H ∧ va_D A (gls g ad L S)
def nestL : List (String × Nat × MethodName) := [("DroveRoads", 18, ⟨"DroveRoads$Letters", "<init>", "()V"⟩), ("DroveRoads", 25, ⟨"DroveRoads$Bills", "<init>", "()V"⟩), ("DroveRoads$Bills", 17, ⟨"DroveRoads$Passings", "<init>", "()V"⟩), ("DroveRoads", 42, ⟨"DroveRoads$Reckoner", "<init>", "()V"⟩), ("DroveRoads", 49, ⟨"DroveRoads$Orders", "<init>", "()V"⟩), ("DroveRoads$Road", 34, ⟨"DroveRoads", "within", "(III)Z"⟩), ("DroveRoads$Herd", 20, ⟨"DroveRoads$Orders", "<init>", "()V"⟩), ("DroveRoads$Letters", 22, ⟨"DroveRoads", "within", "(III)Z"⟩), ("DroveRoads$Parser", 90, ⟨"DroveRoads", "within", "(III)Z"⟩), ("DroveRoads$Bills", 39, ⟨"DroveRoads", "within", "(III)Z"⟩), ("DroveRoads$Passings", 37, ⟨"DroveRoads", "within", "(III)Z"⟩)]
def NW (U : State) : Prop := ∀ q ∈ nestL, va_Nw (.methodLinkNest q.1 q.2.1 q.2.2 "DroveRoads") U
theorem NW.warm {s U : State} (hW : s.WarmedH U.vm) (h : NW s) : NW U := fun q hq => va_Nw.warmM hW (h q hq)
def WU (g : Cx) (A : Nat → Prop) (ad : Nat → Nat) (L : List Nat) (S : St) (U : State) : Prop := GW g A ad L S U.heap ∧ va_K g.1 vwCl (gtys g) U ∧ NW U
theorem gls_at {g : Cx} {ad : Nat → Nat} {L : List Nat} {S : St} {o : Nat} (ho : o ∈ L) : ∃ q : Nat, L[q]? = some o ∧ (gls g ad L S)[q]? = some (ad o, cellOf g ad S o) := by
  obtain ⟨q, hq⟩ := List.getElem?_of_mem ho
  exact ⟨q, hq, by unfold gls; rw [List.getElem?_map, hq]; rfl⟩
theorem gls_set {g : Cx} {A : Nat → Prop} {ad : Nat → Nat} {L : List Nat} {S S1 : St} {o q : Nat} {e : va_E} (hD : va_D A (gls g ad L S)) (hq : L[q]? = some o) (h1 : cellOf g ad S1 o = e) (h2 : ∀ x, x ≠ o → cellOf g ad S1 x = cellOf g ad S x) : (gls g ad L S).set q (ad o, e) = gls g ad L S1 := by
  apply List.ext_getElem?
  intro i
  rw [List.getElem?_set]
  have hql : q < (gls g ad L S).length := by unfold gls; rw [List.length_map]; exact (List.getElem?_eq_some_iff.mp hq).1
  by_cases hi : q = i
  · subst hi
    rw [if_pos rfl, if_pos hql]
    unfold gls
    rw [List.getElem?_map, hq]
    show _ = some (ad o, cellOf g ad S1 o)
    rw [h1]
  · rw [if_neg hi]
    cases hx : L[i]? with
    | none => unfold gls; rw [List.getElem?_map, List.getElem?_map, hx]; rfl
    | some x =>
      have hxo : x ≠ o := fun e2 => by
        subst e2
        exact hi (hD.1 q i (ad x, cellOf g ad S x) (ad x, cellOf g ad S x) (by unfold gls; rw [List.getElem?_map, hq]; rfl) (by unfold gls; rw [List.getElem?_map, hx]; rfl) rfl)
      unfold gls
      rw [List.getElem?_map, List.getElem?_map, hx]
      show some (ad x, cellOf g ad S x) = some (ad x, cellOf g ad S1 x)
      rw [h2 x hxo]
theorem cellOf_sv {g : Cx} {ad : Nat → Nat} {S : St} {o k : Nat} {x : Int32} : ∀ y, y ≠ o → cellOf g ad (sv S o k x) y = cellOf g ad S y := fun y h => by
  unfold cellOf sv; dsimp only
  rw [up2_ne _ _ _ h]
theorem cellOf_sr {g : Cx} {ad : Nat → Nat} {S : St} {o k : Nat} {x : Option Nat} : ∀ y, y ≠ o → cellOf g ad (sr S o k x) y = cellOf g ad S y := fun y h => by
  unfold cellOf sr; dsimp only
  rw [up2_ne _ _ _ h]
theorem cellOf_sl {g : Cx} {ad : Nat → Nat} {S : St} {o : Nat} {x : Int64} : ∀ y, y ≠ o → cellOf g ad (sl S o x) y = cellOf g ad S y := fun y h => by
  unfold cellOf sl
  simp only [va_up, if_neg h]
/-! pure words -/
def bn {α β : Type} (e : α) (f : α → β) : β := f e
theorem bn_at {α β : Type} {e x : α} {f : α → β} {r : β} (ex : x = e) (h : bn e f = r) : f x = r := by subst ex; exact h
theorem it_t {α : Type} {c : Prop} {d : Decidable c} {a b x : α} (hc : c) (h : @ite α c d a b = x) : a = x := (if_pos hc).symm.trans h
theorem it_f {α : Type} {c : Prop} {d : Decidable c} {a b x : α} (hc : ¬ c) (h : @ite α c d a b = x) : b = x := (if_neg hc).symm.trans h
theorem ck_n {α : Type} {c : Prop} {d : Decidable c} {a : Option α} {x : α} (h : @ite (Option α) c d none a = some x) : ¬ c ∧ a = some x := by
  by_cases hc : c
  · have := it_t hc h
    cases this
  · exact ⟨hc, it_f hc h⟩
theorem ck_t {α : Type} {c : Prop} {d : Decidable c} {a : Option α} {x : α} (h : @ite (Option α) c d a none = some x) : c ∧ a = some x := by
  by_cases hc : c
  · exact ⟨hc, it_t hc h⟩
  · have := it_f hc h
    cases this
def cl0 {α β : Type} (e : Option α) (f : α → Option β) : Option β := match e with
  | none => none
  | some a => f a
theorem cl0_ex {α β : Type} {e : Option α} {f : α → Option β} {x : β} (h : cl0 e f = some x) : ∃ a, e = some a ∧ f a = some x := by
  cases e with
  | none => cases h
  | some a => exact ⟨a, rfl, h⟩
def cl1 {α β γ : Type} (e : Option (α × β)) (f : α → β → Option γ) : Option γ := match e with
  | none => none
  | some q => f q.1 q.2
theorem cl1_ex {α β γ : Type} {e : Option (α × β)} {f : α → β → Option γ} {x : γ} (h : cl1 e f = some x) : ∃ a b, e = some (a, b) ∧ f a b = some x := by
  cases e with
  | none => cases h
  | some q => exact ⟨q.1, q.2, rfl, h⟩
def oc {α : Type} (r : Option Nat) (a : α) (f : Nat → α) : α := match r with
  | none => a
  | some x => f x
abbrev ix (i : Int32) : Nat := i.toNatClampNeg
def bz (x : Int32) : Prop := narrow .boolean (.int x) = .int x
def rmk (k : Nat) : Room := { frames := k, cells := 0, slots := 0, locals := 64 * k }
end BASE

section ROWS
variable {p : Program} {l : Launch} {e : Env} {R : Room} {s : State} {m : MethodId} {args : Array Value} {below : List Frame} {meth : Method} {c : Code} {H : Heap} {locs : List Loc} {cells slots : Nat} {Q : State → Prop}
variable {cc : ByteArray} {pc : Nat} {ls : Array Slot} {rest : List Value} {A : Nat → Prop} {g : Cx} {ad : Nat → Nat} {L : List Nat} {S : St} {H0 : Heap}
def MC (p : Program) (s : State) (m : MethodId) (args : Array Value) (meth : Method) (c : Code) (cc : ByteArray) (nL : Nat) (ret : Option FieldType) (own : String) (g : Cx) : Prop :=
  p.tables.exec = Jvm.exec ∧ c.code = cc ∧ c.maxLocals = nL ∧ s.vm.findClass own = some m.cls ∧ (∀ w ∈ gw_tbl, w.before args s = true) ∧ meth.sig.returnType = ret ∧ meth.locks = false ∧ va_K g.1 vwCl (gtys g) s ∧ NW s
theorem g_get (hexec : p.tables.exec = Jvm.exec) (hb : c.code = cc) {own ref C : String} {T : u_T} {N ci index : Nat} (hts : ∀ w ∈ gw_tbl, w.before args s = true) (hin : ∀ w ∈ u_ws C T N, w ∈ gw_tbl) (hown : s.vm.findClass own = some m.cls) (hK : va_K g.1 vwCl (gtys g) s) (hW : GW g A ad L S H) {o : Nat} (ho : o ∈ L) {fs : List Value} (he : cellOf g ad S o = .inr (ci, fs)) (hc : vwCl[ci]? = some (C, T, N)) (k : Nat) (hk : k < N) (hlink : Cond.fieldLink own index ref (T k).2.1 (T k).2.2.1 ∈ gw_tbl) (href : ref = (T k).1) {v : Value} (hv : fs[k]? = some v) (hdg : decode cc pc = .ok (.getfield index, 3))
    (kk : W p l e R s m args below meth c H locs cells slots Q (F0 m (pc + 3) ls (v :: rest))) : W p l e R s m args below meth c H locs cells slots Q (F0 m pc ls (.ref (ad o) :: rest)) := by
  obtain ⟨q, hq, hq2⟩ := gls_at (g := g) (ad := ad) (S := S) ho
  rw [he] at hq2
  exact va_get hexec hb hts hin hown hK hW.1 q hq2 hc k hk (hts _ hlink) (fun x h => by rw [href]; exact h) hv hdg kk
theorem g_put (hexec : p.tables.exec = Jvm.exec) (hb : c.code = cc) {own ref C : String} {T : u_T} {N ci index : Nat} (hts : ∀ w ∈ gw_tbl, w.before args s = true) (hin : ∀ w ∈ u_ws C T N, w ∈ gw_tbl) (ty0 : Nat → FieldType) (hty : ∀ k, k < N → parseFieldDescriptor (T k).2.2.1 = some (ty0 k)) (hnm : ∀ a, a < N → ∀ b, b < N → a ≠ b → (T a).2.1 ≠ (T b).2.1) (hown : s.vm.findClass own = some m.cls) (hK : va_K g.1 vwCl (gtys g) s) (hW : GW g A ad L S H) (hS : va_S A H0 H locs) {o : Nat} (ho : o ∈ L) {fs : List Value} (he : cellOf g ad S o = .inr (ci, fs)) (hc : vwCl[ci]? = some (C, T, N)) (k : Nat) (hk : k < N) (hlink : Cond.fieldLink own index ref (T k).2.1 (T k).2.2.1 ∈ gw_tbl) (href : ref = (T k).1) (hfin : (T k).2.2.2 = false) {v : Value} (hn : narrow (ty0 k) v = v) (hfit : fits (ty0 k) v = true) (hl : k < fs.length) (S1 : St) (h1 : cellOf g ad S1 o = .inr (ci, fs.set k v)) (h2 : ∀ x, x ≠ o → cellOf g ad S1 x = cellOf g ad S x)
    (hdg : decode cc pc = .ok (.putfield index, 3)) (kk : ∀ S2, S2 = S1 → ∀ (H1 : Heap) (locs1 : List Loc), GW g A ad L S2 H1 → va_S A H0 H1 locs1 → W p l e R s m args below meth c H1 locs1 cells slots Q (F0 m (pc + 3) ls rest)) : W p l e R s m args below meth c H locs cells slots Q (F0 m pc ls (v :: .ref (ad o) :: rest)) := by
  obtain ⟨q, hq, hq2⟩ := gls_at (g := g) (ad := ad) (S := S) ho
  rw [he] at hq2
  have hset := gls_set (S1 := S1) hW.2 hq h1 h2
  refine va_put hexec hb hts hin ty0 hty hnm hown hK hW.1 hW.2 hS q hq2 hc k hk (hts _ hlink) (fun x h => by rw [href]; exact h) hfin (hty k hk) hn hfit hl hdg (fun H1 locs1 hP hD hS1 => ?_)
  rw [hset] at hP hD
  exact kk S1 rfl H1 locs1 ⟨hP, hD⟩ hS1
theorem g_iald (hexec : p.tables.exec = Jvm.exec) (hb : c.code = cc) (hK : va_K g.1 vwCl (gtys g) s) (hW : GW g A ad L S H) {o n : Nat} (ho : o ∈ L) (he : cellOf g ad S o = .inl (g.2.2.1, n, .inl (S.1 o))) {i : Int32} (hin : ¬ (i < 0 ∨ n ≤ ix i)) (hdg : decode cc pc = .ok (.iaload, 1))
    (kk : W p l e R s m args below meth c H locs cells slots Q (F0 m (pc + 1) ls (.int (gv S o (ix i)) :: rest))) : W p l e R s m args below meth c H locs cells slots Q (F0 m pc ls (.int i :: .ref (ad o) :: rest)) := by
  obtain ⟨q, hq, hq2⟩ := gls_at (g := g) (ad := ad) (S := S) ho
  rw [he] at hq2
  exact va_iald hexec hb hK hW.1 q 1 hq2 rfl hin hdg kk
theorem g_bald (hexec : p.tables.exec = Jvm.exec) (hb : c.code = cc) (hK : va_K g.1 vwCl (gtys g) s) (hW : GW g A ad L S H) {o n : Nat} (ho : o ∈ L) (he : cellOf g ad S o = .inl (g.2.1, n, .inl (S.1 o))) {i : Int32} (hin : ¬ (i < 0 ∨ n ≤ ix i)) (hdg : decode cc pc = .ok (.baload, 1))
    (kk : W p l e R s m args below meth c H locs cells slots Q (F0 m (pc + 1) ls (.int (gv S o (ix i)) :: rest))) : W p l e R s m args below meth c H locs cells slots Q (F0 m pc ls (.int i :: .ref (ad o) :: rest)) := by
  obtain ⟨q, hq, hq2⟩ := gls_at (g := g) (ad := ad) (S := S) ho
  rw [he] at hq2
  exact va_bald hexec hb hK hW.1 q 0 hq2 rfl hin hdg kk
theorem g_zald (hexec : p.tables.exec = Jvm.exec) (hb : c.code = cc) (hK : va_K g.1 vwCl (gtys g) s) (hW : GW g A ad L S H) {o n : Nat} (ho : o ∈ L) (he : cellOf g ad S o = .inl (g.2.2.2.1, n, .inl (S.1 o))) {i : Int32} (hin : ¬ (i < 0 ∨ n ≤ ix i)) (hdg : decode cc pc = .ok (.baload, 1))
    (kk : W p l e R s m args below meth c H locs cells slots Q (F0 m (pc + 1) ls (.int (gv S o (ix i)) :: rest))) : W p l e R s m args below meth c H locs cells slots Q (F0 m pc ls (.int i :: .ref (ad o) :: rest)) := by
  obtain ⟨q, hq, hq2⟩ := gls_at (g := g) (ad := ad) (S := S) ho
  rw [he] at hq2
  exact va_zald hexec hb hK hW.1 q 2 hq2 rfl hin hdg kk
theorem sv_row {S : St} {o k : Nat} {x : Int32} : (sv S o k x).1 o = upd (S.1 o) k x := by
  show up2 S.1 o k x o = _
  rw [up2_at]
  rfl
theorem g_iast (hexec : p.tables.exec = Jvm.exec) (hb : c.code = cc) (hK : va_K g.1 vwCl (gtys g) s) (hW : GW g A ad L S H) (hS : va_S A H0 H locs) {o n : Nat} (ho : o ∈ L) (he : ∀ S : St, cellOf g ad S o = .inl (g.2.2.1, n, .inl (S.1 o))) {i x : Int32} (hin : ¬ (i < 0 ∨ n ≤ ix i)) (hdg : decode cc pc = .ok (.iastore, 1))
    (kk : ∀ S2, S2 = sv S o (ix i) x → ∀ (H1 : Heap) (locs1 : List Loc), GW g A ad L S2 H1 → va_S A H0 H1 locs1 → W p l e R s m args below meth c H1 locs1 cells slots Q (F0 m (pc + 1) ls rest)) : W p l e R s m args below meth c H locs cells slots Q (F0 m pc ls (.int x :: .int i :: .ref (ad o) :: rest)) := by
  obtain ⟨q, hq, hq2⟩ := gls_at (g := g) (ad := ad) (S := S) ho
  rw [he S] at hq2
  refine va_iast hexec hb hK hW.1 hW.2 hS q 1 hq2 rfl hin hdg (fun H1 locs1 hP hD hS1 => ?_)
  rw [gls_set (S1 := sv S o (ix i) x) hW.2 hq (by rw [he, sv_row]) cellOf_sv] at hP hD
  exact kk _ rfl H1 locs1 ⟨hP, hD⟩ hS1
theorem g_bast (hexec : p.tables.exec = Jvm.exec) (hb : c.code = cc) (hK : va_K g.1 vwCl (gtys g) s) (hW : GW g A ad L S H) (hS : va_S A H0 H locs) {o n : Nat} (ho : o ∈ L) (he : ∀ S : St, cellOf g ad S o = .inl (g.2.1, n, .inl (S.1 o))) {i x y : Int32} (hy : vp_nar .byte x = y) (hin : ¬ (i < 0 ∨ n ≤ ix i)) (hdg : decode cc pc = .ok (.bastore, 1))
    (kk : ∀ S2, S2 = sv S o (ix i) y → ∀ (H1 : Heap) (locs1 : List Loc), GW g A ad L S2 H1 → va_S A H0 H1 locs1 → W p l e R s m args below meth c H1 locs1 cells slots Q (F0 m (pc + 1) ls rest)) : W p l e R s m args below meth c H locs cells slots Q (F0 m pc ls (.int x :: .int i :: .ref (ad o) :: rest)) := by
  obtain ⟨q, hq, hq2⟩ := gls_at (g := g) (ad := ad) (S := S) ho
  rw [he S] at hq2
  refine va_bast hexec hb hK hW.1 hW.2 hS q 0 hq2 rfl hin hdg (fun H1 locs1 hP hD hS1 => ?_)
  rw [hy] at hP hD
  rw [gls_set (S1 := sv S o (ix i) y) hW.2 hq (by rw [he, sv_row]) cellOf_sv] at hP hD
  exact kk _ rfl H1 locs1 ⟨hP, hD⟩ hS1
theorem g_zast (hexec : p.tables.exec = Jvm.exec) (hb : c.code = cc) (hK : va_K g.1 vwCl (gtys g) s) (hW : GW g A ad L S H) (hS : va_S A H0 H locs) {o n : Nat} (ho : o ∈ L) (he : ∀ S : St, cellOf g ad S o = .inl (g.2.2.2.1, n, .inl (S.1 o))) {i x y : Int32} (hy : vp_nar .boolean x = y) (hin : ¬ (i < 0 ∨ n ≤ ix i)) (hdg : decode cc pc = .ok (.bastore, 1))
    (kk : ∀ S2, S2 = sv S o (ix i) y → ∀ (H1 : Heap) (locs1 : List Loc), GW g A ad L S2 H1 → va_S A H0 H1 locs1 → W p l e R s m args below meth c H1 locs1 cells slots Q (F0 m (pc + 1) ls rest)) : W p l e R s m args below meth c H locs cells slots Q (F0 m pc ls (.int x :: .int i :: .ref (ad o) :: rest)) := by
  obtain ⟨q, hq, hq2⟩ := gls_at (g := g) (ad := ad) (S := S) ho
  rw [he S] at hq2
  refine va_zast hexec hb hK hW.1 hW.2 hS q 2 hq2 rfl hin hdg (fun H1 locs1 hP hD hS1 => ?_)
  rw [hy] at hP hD
  rw [gls_set (S1 := sv S o (ix i) y) hW.2 hq (by rw [he, sv_row]) cellOf_sv] at hP hD
  exact kk _ rfl H1 locs1 ⟨hP, hD⟩ hS1
theorem g_alen (hexec : p.tables.exec = Jvm.exec) (hb : c.code = cc) (hK : va_K g.1 vwCl (gtys g) s) (hW : GW g A ad L S H) {o n : Nat} (ho : o ∈ L) {f : Nat → Int32} (t0 : Nat) {cA : ClassId} {ty : FieldType} (ht : (gtys g)[t0]? = some (cA, ty)) (he : cellOf g ad S o = .inl (cA, n, .inl f)) {v : Int32} (hv : Int32.ofNat n = v) (hdg : decode cc pc = .ok (.arraylength, 1))
    (kk : W p l e R s m args below meth c H locs cells slots Q (F0 m (pc + 1) ls (.int v :: rest))) : W p l e R s m args below meth c H locs cells slots Q (F0 m pc ls (.ref (ad o) :: rest)) := by
  obtain ⟨q, hq, hq2⟩ := gls_at (g := g) (ad := ad) (S := S) ho
  rw [he] at hq2
  exact va_alen hexec hb hK hW.1 q t0 hq2 ht hv hdg kk
/-- a row of references -/
theorem g_aald (hexec : p.tables.exec = Jvm.exec) (hb : c.code = cc) (hK : va_K g.1 vwCl (gtys g) s) (hW : GW g A ad L S H) (ho : 6 ∈ L) {i : Int32} (hin : ¬ (i < 0 ∨ 6 ≤ ix i)) (hdg : decode cc pc = .ok (.aaload, 1))
    (kk : W p l e R s m args below meth c H locs cells slots Q (F0 m (pc + 1) ls (va_re ad (gr S 6 (ix i)) :: rest))) : W p l e R s m args below meth c H locs cells slots Q (F0 m pc ls (.int i :: .ref (ad 6) :: rest)) := by
  obtain ⟨q, hq, hq2⟩ := gls_at (g := g) (ad := ad) (S := S) ho
  exact va_aldq hexec hb hK hW.1 q 3 (C := "DroveRoads$Herd") hq2 rfl hin hdg kk
/-! ends -/
abbrev qi (g : Cx) (A : Nat → Prop) (ad : Nat → Nat) (L : List Nat) (r : Int32) (S2 : St) : Array Value → State → Outcome → State → Prop := va_Qi (fun (x : Int32) (_ : Unit) => x = r) (fun _ t => GW g A ad L S2 t.heap) A
abbrev qz (g : Cx) (A : Nat → Prop) (ad : Nat → Nat) (L : List Nat) (r : Int32) (S2 : St) : Array Value → State → Outcome → State → Prop := va_Qi (fun (x : Int32) (_ : Unit) => x = r ∧ bz x) (fun _ t => GW g A ad L S2 t.heap) A
abbrev qv (g : Cx) (A : Nat → Prop) (ad : Nat → Nat) (L : List Nat) (S2 : St) : Array Value → State → Outcome → State → Prop := va_Qv (fun (_ : Unit) => True) (fun _ t => GW g A ad L S2 t.heap) A
abbrev qr (g : Cx) (A : Nat → Prop) (ad : Nat → Nat) (L : List Nat) (r : Option Nat) (S2 : St) : Array Value → State → Outcome → State → Prop := va_Qe ad (fun (x : Option Nat) (_ : Unit) => x = r) (fun _ t => GW g A ad L S2 t.heap) A
theorem g_iret (hexec : p.tables.exec = Jvm.exec) (hb : c.code = cc) (hr : meth.sig.returnType = some .int) (hlocks : meth.locks = false) (hW : GW g A ad L S H) (hS : va_S A s.heap H locs) {v : Int32} (hdg : decode cc pc = .ok (.ireturn, 1)) : W p l e R s m args below meth c H locs cells slots (MQ below (qi g A ad L v S) args s cells slots A) (F0 m pc ls [.int v]) :=
  W.iret (v := v) hexec hb hr (fun t ht _ => ⟨⟨v, (), rfl, rfl, show GW g A ad L S t.heap from ht.symm ▸ hW⟩, hS.F ht⟩) hS.2.2 hdg hlocks
theorem g_zret (hexec : p.tables.exec = Jvm.exec) (hb : c.code = cc) (hr : meth.sig.returnType = some .boolean) (hlocks : meth.locks = false) (hW : GW g A ad L S H) (hS : va_S A s.heap H locs) {v : Int32} (hz : bz v) (hdg : decode cc pc = .ok (.ireturn, 1)) : W p l e R s m args below meth c H locs cells slots (MQ below (qz g A ad L v S) args s cells slots A) (F0 m pc ls [.int v]) :=
  W.zret (v := v) hexec hb hr hz (fun t ht _ => ⟨⟨v, (), rfl, ⟨rfl, hz⟩, show GW g A ad L S t.heap from ht.symm ▸ hW⟩, hS.F ht⟩) hS.2.2 hdg hlocks
theorem g_vret (hexec : p.tables.exec = Jvm.exec) (hb : c.code = cc) (hr : meth.sig.returnType = none) (hlocks : meth.locks = false) (hW : GW g A ad L S H) (hS : va_S A s.heap H locs) (hdg : decode cc pc = .ok (.return_, 1)) : W p l e R s m args below meth c H locs cells slots (MQ below (qv g A ad L S) args s cells slots A) (F0 m pc ls []) :=
  W.vret hexec hb hr (fun t ht _ => ⟨⟨(), rfl, trivial, show GW g A ad L S t.heap from ht.symm ▸ hW⟩, hS.F ht⟩) hS.2.2 hdg hlocks
theorem g_aret (hexec : p.tables.exec = Jvm.exec) (hb : c.code = cc) {C : String} (hr : meth.sig.returnType = some (.object C)) (hlocks : meth.locks = false) (hW : GW g A ad L S H) (hS : va_S A s.heap H locs) {r : Option Nat} {v : Value} (hv : va_re ad r = v) (hdg : decode cc pc = .ok (.areturn, 1)) : W p l e R s m args below meth c H locs cells slots (MQ below (qr g A ad L r S) args s cells slots A) (F0 m pc ls [v]) := by
  subst hv
  exact W.aret hexec hb hr (Or.inl ⟨C, rfl⟩) (va_re_or ad r) (fun t ht _ => ⟨⟨r, (), rfl, rfl, show GW g A ad L S t.heap from ht.symm ▸ hW⟩, hS.F ht⟩) hS.2.2 hdg hlocks
/-! entry -/
theorem g_met {y : MethodName} {maxL : Nat} {ret : Option FieldType} {rm : Room} {Qc : Array Value → State → Outcome → State → Prop} {mc ms : Nat} (av : List Value) (hy : plainName y.cls = true) (hav : (lg_sl av).length ≤ maxL)
    (body : ∀ (p : Program) (e : Env) (s : State) (m : MethodId) (below : List Frame) (meth : Method) (c : Code) (ls : Array Slot), MC p s m av.toArray meth c cc maxL ret y.cls g → GW g A ad L S s.heap → lv_has ls maxL (lv_args 0 av) → meth.name = y.name →
      W p l e rm s m av.toArray below meth c s.heap [] 0 0 (MQ below Qc av.toArray s mc ms A) (F0 m 0 ls [])) : Met l y (gws y cc maxL ret) rm (va_Pc av (WU g A ad L S)) Qc mc ms A := by
  refine Met.ofW (cc := cc) (maxL := maxL) (ret := ret) hy rfl ?_
  intro p e s m args below meth c s₁ B hml hv
  obtain ⟨rfl, hW, hK, hN⟩ := hv
  have hts := atoms_spec (ws := gws y cc maxL ret) B.pre
  have hl := lv_entry av (n := maxL) hav
  rw [lg_entry_eq]
  exact body p e s m below meth c _ ⟨B.exec, B.bytes, hml, findClass_of_methodNamed B.named, fun w hw => hts w (List.mem_cons_of_mem _ hw), B.returns, B.notSynchronized, hK, hN⟩ hW hl (name_of_methodNamed B.named B.method).1
/-! calls -/
theorem g_blind {av : List Value} : FrameBlind (va_Pc av (WU g A ad L S)) := fun a U g2 mk q => by
  obtain ⟨q0, qP, qK, qN⟩ := q
  exact ⟨q0, qP, va_K.moved (u := U) (U := U.calling g2 mk a) (Vm.Alike.refl U.vm) qK, fun w hw => va_Nw.same rfl (rfl : U.vm = (U.calling g2 mk a).vm) (qN w hw)⟩
theorem g_preS (hW : GW g A ad L S H) (hK : va_K g.1 vwCl (gtys g) s) (hN : NW s) {As : List Value} : PreS s H (va_Pc As (WU g A ad L S)) As :=
  ⟨g_blind, fun U hU hwm => ⟨rfl, by rw [hU]; exact hW, va_K.moved hwm.alike hK, hN.warm hwm⟩⟩
theorem g_preV (hW : GW g A ad L S H) (hK : va_K g.1 vwCl (gtys g) s) (hN : NW s) {As : List Value} {o ci : Nat} {fs : List Value} {q : vw_C} (ho : o ∈ L) (he : cellOf g ad S o = .inr (ci, fs)) (hc : vwCl[ci]? = some q) : PreV s H q.1 (ad o) (va_Pc (.ref (ad o) :: As) (WU g A ad L S)) As := by
  refine ⟨g_blind, ?_, fun U hU hwm => ⟨rfl, by rw [hU]; exact hW, va_K.moved hwm.alike hK, hN.warm hwm⟩⟩
  obtain ⟨k, hq, hq2⟩ := gls_at (g := g) (ad := ad) (S := S) ho
  rw [he] at hq2
  exact va_recv hK hW.1 hc hq2
variable {y : MethodName} {bytes : ByteArray} {maxL nL mc ms n index k : Nat} {ret : Option FieldType} {rm : Room} {own : String} {As : List Value} {S1 : St} {r : Int32} {ro : Option Nat} {Qc : Array Value → State → Outcome → State → Prop}
def roomy (rm R : Room) (maxL : Nat) : Prop := rm.frames + 1 ≤ R.frames ∧ 8 + (maxL + 11) + rm.locals ≤ R.locals
/-- a call on an object -/
theorem g_runV {q : vw_C} {ci o : Nat} {fs : List Value} (hx : p.tables.exec = Jvm.exec) (hb : c.code = cc) (hml : c.maxLocals = nL) (hown : s.vm.findClass own = some m.cls) (hts : ∀ w ∈ gw_tbl, w.before args s = true) (hK : va_K g.1 vwCl (gtys g) s) (hN : NW s) (hW : GW g A ad L S H)
    (hM : Met l y (gws y bytes maxL ret) rm (va_Pc (.ref (ad o) :: As) (WU g A ad L S)) Qc mc ms A) (ho : o ∈ L) (he : cellOf g ad S o = .inr (ci, fs)) (hc : vwCl[ci]? = some q) (hg : GoodIn gw_tbl (wsV own index q.1 y (gws y bytes maxL ret)))
    (hd : y.cls = q.1 ∧ y.cls ≠ "java/lang/invoke/MethodHandle" ∧ y.cls ≠ "java/lang/invoke/VarHandle" ∧ (parseMethodDescriptor y.desc).map (fun d => d.parameters.length) = some n) (hn : As.length = n) (hrc : rm.cells = mc) (hrs : rm.slots = ms) (hroom : roomy rm R maxL) (hsz : ls.size = nL) (hcat : (rest.map fun v => v.category).sum ≤ 8) (hdg : decode cc pc = .ok (.invokevirtual index, 3)) {st : List Value} (hst : st = As.reverse ++ .ref (ad o) :: rest) (hf : cells + mc ≤ R.cells ∧ slots + ms ≤ R.slots) :
    va_Run p l e R s m args below meth c H locs cells slots mc ms (F0 m pc ls st) rest (Qc (Value.ref (ad o) :: As).toArray) A := by
  subst hst
  exact va_runV (As := As) (rest := rest) ⟨hx, hb, hml, hown, hts⟩ hM (cwV n hts hg rfl hrc hrs hd hroom) (g_preV hW hK hN ho he hc) rfl hn hsz rfl (lv_room hcat) hdg hf
theorem g_runS (hx : p.tables.exec = Jvm.exec) (hb : c.code = cc) (hml : c.maxLocals = nL) (hown : s.vm.findClass own = some m.cls) (hts : ∀ w ∈ gw_tbl, w.before args s = true) (hK : va_K g.1 vwCl (gtys g) s) (hN : NW s) (hW : GW g A ad L S H)
    (hM : Met l y (gws y bytes maxL ret) rm (va_Pc As (WU g A ad L S)) Qc mc ms A) (hg : GoodIn gw_tbl (va_wsS own index y (gws y bytes maxL ret)))
    (hd : y.cls ≠ "java/lang/invoke/MethodHandle" ∧ y.cls ≠ "java/lang/invoke/VarHandle" ∧ (parseMethodDescriptor y.desc).map (fun d => d.parameters.length) = some n) (hn : As.length = n) (hrc : rm.cells = mc) (hrs : rm.slots = ms) (hroom : roomy rm R maxL) (hsz : ls.size = nL) (hcat : (rest.map fun v => v.category).sum ≤ 8) (hdg : decode cc pc = .ok (.invokestatic index, 3)) {st : List Value} (hst : st = As.reverse ++ rest) (hf : cells + mc ≤ R.cells ∧ slots + ms ≤ R.slots) :
    va_Run p l e R s m args below meth c H locs cells slots mc ms (F0 m pc ls st) rest (Qc As.toArray) A := by
  subst hst
  exact va_runS (As := As) (rest := rest) ⟨hx, hb, hml, hown, hts⟩ hM (va_cwS n hts hg rfl hrc hrs hd hroom) (g_preS hW hK hN) rfl hn hsz rfl (lv_room hcat) hdg hf
theorem g_runSN (hx : p.tables.exec = Jvm.exec) (hb : c.code = cc) (hml : c.maxLocals = nL) (hown : s.vm.findClass own = some m.cls) (hts : ∀ w ∈ gw_tbl, w.before args s = true) (hK : va_K g.1 vwCl (gtys g) s) (hN : NW s) (hW : GW g A ad L S H)
    (hM : Met l y (gws y bytes maxL ret) rm (va_Pc As (WU g A ad L S)) Qc mc ms A) (h5 : Cond.code y bytes maxL ret ∈ gw_tbl) (hl : (own, index, y) ∈ nestL) (hini : Cond.initialized y.cls ∈ gw_tbl) (hstat : Cond.static y ∈ gw_tbl)
    (hd : y.cls ≠ "java/lang/invoke/MethodHandle" ∧ y.cls ≠ "java/lang/invoke/VarHandle" ∧ (parseMethodDescriptor y.desc).map (fun d => d.parameters.length) = some n) (hn : As.length = n) (hrc : rm.cells = mc) (hrs : rm.slots = ms) (hroom : roomy rm R maxL) (hsz : ls.size = nL) (hcat : (rest.map fun v => v.category).sum ≤ 8) (hdg : decode cc pc = .ok (.invokestatic index, 3)) {st : List Value} (hst : st = As.reverse ++ rest) (hf : cells + mc ≤ R.cells ∧ slots + ms ≤ R.slots) :
    va_Run p l e R s m args below meth c H locs cells slots mc ms (F0 m pc ls st) rest (Qc As.toArray) A := by
  subst hst
  exact va_runSN (As := As) (rest := rest) (host := "DroveRoads") ⟨hx, hb, hml, hown, hts⟩ hM ⟨va_cnB n hts (gw_GoodIn (gw_gws h5)) rfl hrc hrs (hN _ hl) (hts _ hini) hd hroom, hts _ hstat, trivial⟩ (g_preS hW hK hN) rfl hn hsz rfl (lv_room hcat) hdg hf
theorem g_ci {a : Array Value} {st : List Value} (hr : va_Run p l e R s m args below meth c H locs cells slots 0 0 (F0 m pc ls st) rest (qi g A ad L r S1 a) A) (hS : va_S A H0 H locs)
    (kk : ∀ (H1 : Heap) (locs1 : List Loc), GW g A ad L S1 H1 → va_S A H0 H1 locs1 → W p l e R s m args below meth c H1 locs1 cells slots Q (F0 m (pc + 3) ls (.int r :: rest))) : W p l e R s m args below meth c H locs cells slots Q (F0 m pc ls st) :=
  va_calli hr hS (fun _ _ h => h) (fun _ h => h) (fun r2 _ t H1 locs1 ht _ hp hB _ _ hS1 => by subst hp; subst ht; exact kk _ locs1 hB hS1)
theorem g_cz {a : Array Value} {st : List Value} (hr : va_Run p l e R s m args below meth c H locs cells slots 0 0 (F0 m pc ls st) rest (qz g A ad L r S1 a) A) (hS : va_S A H0 H locs)
    (kk : bz r → ∀ (H1 : Heap) (locs1 : List Loc), GW g A ad L S1 H1 → va_S A H0 H1 locs1 → W p l e R s m args below meth c H1 locs1 cells slots Q (F0 m (pc + 3) ls (.int r :: rest))) : W p l e R s m args below meth c H locs cells slots Q (F0 m pc ls st) :=
  va_calli hr hS (fun _ _ h => h) (fun _ h => h) (fun r2 _ t H1 locs1 ht _ hp hB _ _ hS1 => by obtain ⟨hp, hz⟩ := hp; subst hp; subst ht; exact kk hz _ locs1 hB hS1)
theorem g_cv {a : Array Value} {st : List Value} (hr : va_Run p l e R s m args below meth c H locs cells slots 0 0 (F0 m pc ls st) rest (qv g A ad L S1 a) A) (hS : va_S A H0 H locs)
    (kk : ∀ (H1 : Heap) (locs1 : List Loc), GW g A ad L S1 H1 → va_S A H0 H1 locs1 → W p l e R s m args below meth c H1 locs1 cells slots Q (F0 m (pc + 3) ls rest)) : W p l e R s m args below meth c H locs cells slots Q (F0 m pc ls st) :=
  va_callv hr hS (fun _ _ h => h) (fun _ h => h) (fun _ t H1 locs1 ht _ hp hB _ _ hS1 => by subst ht; exact kk _ locs1 hB hS1)
theorem g_cr {a : Array Value} {st : List Value} (hr : va_Run p l e R s m args below meth c H locs cells slots 0 0 (F0 m pc ls st) rest (qr g A ad L ro S1 a) A) (hS : va_S A H0 H locs)
    (kk : ∀ (H1 : Heap) (locs1 : List Loc), GW g A ad L S1 H1 → va_S A H0 H1 locs1 → W p l e R s m args below meth c H1 locs1 cells slots Q (F0 m (pc + 3) ls (va_re ad ro :: rest))) : W p l e R s m args below meth c H locs cells slots Q (F0 m pc ls st) :=
  va_calle hr hS (fun _ _ h => h) (fun _ h => h) (fun r2 _ t H1 locs1 ht _ hp hB _ _ hS1 => by subst hp; subst ht; exact kk _ locs1 hB hS1)
/-- int and long fields of the world's objects -/
theorem fs_int {fs : List Value} {k : Nat} {x : Int32} (h : fs[k]? = some (.int x)) : k < fs.length := (List.getElem?_eq_some_iff.mp h).1
theorem rm_ok {a b maxL : Nat} (h : a + 1 ≤ b) (hm : maxL ≤ 40) : roomy (rmk a) (rmk b) maxL := by
  unfold roomy rmk
  dsimp only
  omega
/-- Math.max, Math.min -/
theorem g_max (hx : p.tables.exec = Jvm.exec) (hb : c.code = cc) (hml : c.maxLocals = nL) (hsz : ls.size = nL) (hown : s.vm.findClass own = some m.cls) (hts : ∀ w ∈ gw_tbl, w.before args s = true) (h1 : Cond.methodLink own index Lib.Math.max.name ∈ gw_tbl) (h2 : Cond.static Lib.Math.max.name ∈ gw_tbl) (h3 : Cond.initialized "java/lang/Math" ∈ gw_tbl) (h4 : Cond.code Lib.Math.max.name Lib.Math.max.code 2 (some .int) ∈ gw_tbl)
    (hf : 1 ≤ R.frames) (hlo : (rest.map fun v => v.category).sum + 13 ≤ R.locals) (hce : cells ≤ R.cells) (hsl : slots ≤ R.slots) {x z : Int32} (hdg : decode cc pc = .ok (.invokestatic index, 3))
    (kk : ∀ w : Int32, w = (if x < z then z else x) → W p l e R s m args below meth c H locs cells slots Q (F0 m (pc + 3) ls (.int w :: rest))) : W p l e R s m args below meth c H locs cells slots Q (F0 m pc ls (.int z :: .int x :: rest)) :=
  va_mmax hx hb (hml.trans hsz.symm) hown (hts _ h1) (hts _ h2) (hts _ h3) (hts _ h4) hf hlo hce hsl hdg (kk _ rfl)
theorem g_min (hx : p.tables.exec = Jvm.exec) (hb : c.code = cc) (hml : c.maxLocals = nL) (hsz : ls.size = nL) (hown : s.vm.findClass own = some m.cls) (hts : ∀ w ∈ gw_tbl, w.before args s = true) (h1 : Cond.methodLink own index Lib.Math.min.name ∈ gw_tbl) (h2 : Cond.static Lib.Math.min.name ∈ gw_tbl) (h3 : Cond.initialized "java/lang/Math" ∈ gw_tbl) (h4 : Cond.code Lib.Math.min.name Lib.Math.min.code 2 (some .int) ∈ gw_tbl)
    (hf : 1 ≤ R.frames) (hlo : (rest.map fun v => v.category).sum + 13 ≤ R.locals) (hce : cells ≤ R.cells) (hsl : slots ≤ R.slots) {x z : Int32} (hdg : decode cc pc = .ok (.invokestatic index, 3))
    (kk : ∀ w : Int32, w = (if z < x then z else x) → W p l e R s m args below meth c H locs cells slots Q (F0 m (pc + 3) ls (.int w :: rest))) : W p l e R s m args below meth c H locs cells slots Q (F0 m pc ls (.int z :: .int x :: rest)) :=
  va_mmin hx hb (hml.trans hsz.symm) hown (hts _ h1) (hts _ h2) (hts _ h3) (hts _ h4) hf hlo hce hsl hdg (kk _ rfl)
theorem sv_row2 {S : St} {o k : Nat} {x : Int32} : (sv S o k x).1 o = va_up (S.1 o) k x := up2_at _ _ _ _
theorem sr_row2 {S : St} {o k : Nat} {x : Option Nat} : (sr S o k x).2.1 o = va_up (S.2.1 o) k x := up2_at _ _ _ _
end ROWS
end
section
theorem mw_0 : Cond.selects "DroveRoads$Road" ⟨"DroveRoads$Road", "measure", "()V"⟩ ⟨"DroveRoads$Road", "measure", "()V"⟩ ∈ gw_tbl := gw_at 0 (by decide +kernel) (by decide +kernel)
theorem mw_1 : Cond.selects "DroveRoads" ⟨"DroveRoads", "priceKnownAt", "(I)I"⟩ ⟨"DroveRoads", "priceKnownAt", "(I)I"⟩ ∈ gw_tbl := gw_at 1 (by decide +kernel) (by decide +kernel)
theorem mw_2 : Cond.selects "DroveRoads" ⟨"DroveRoads", "feedFour", "(I)V"⟩ ⟨"DroveRoads", "feedFour", "(I)V"⟩ ∈ gw_tbl := gw_at 2 (by decide +kernel) (by decide +kernel)
theorem mw_3 : Cond.selects "DroveRoads" ⟨"DroveRoads", "findHerd", "(I)LDroveRoads$Herd;"⟩ ⟨"DroveRoads", "findHerd", "(I)LDroveRoads$Herd;"⟩ ∈ gw_tbl := gw_at 3 (by decide +kernel) (by decide +kernel)
theorem mw_4 : Cond.selects "DroveRoads$Lexer" ⟨"DroveRoads$Lexer", "byteAt", "(I)I"⟩ ⟨"DroveRoads$Lexer", "byteAt", "(I)I"⟩ ∈ gw_tbl := gw_at 4 (by decide +kernel) (by decide +kernel)
theorem mw_5 : Cond.selects "DroveRoads$Lexer" ⟨"DroveRoads$Lexer", "scanWord", "()V"⟩ ⟨"DroveRoads$Lexer", "scanWord", "()V"⟩ ∈ gw_tbl := gw_at 5 (by decide +kernel) (by decide +kernel)
theorem mw_6 : Cond.selects "DroveRoads$Lexer" ⟨"DroveRoads$Lexer", "wordToken", "()I"⟩ ⟨"DroveRoads$Lexer", "wordToken", "()I"⟩ ∈ gw_tbl := gw_at 6 (by decide +kernel) (by decide +kernel)
theorem mw_7 : Cond.selects "DroveRoads$Lexer" ⟨"DroveRoads$Lexer", "letterAt", "(I)I"⟩ ⟨"DroveRoads$Lexer", "letterAt", "(I)I"⟩ ∈ gw_tbl := gw_at 7 (by decide +kernel) (by decide +kernel)
theorem mw_8 : Cond.selects "DroveRoads$Lexer" ⟨"DroveRoads$Lexer", "scanNumber", "()V"⟩ ⟨"DroveRoads$Lexer", "scanNumber", "()V"⟩ ∈ gw_tbl := gw_at 8 (by decide +kernel) (by decide +kernel)
theorem mw_9 : Cond.selects "DroveRoads$Lexer" ⟨"DroveRoads$Lexer", "scanSign", "(C)V"⟩ ⟨"DroveRoads$Lexer", "scanSign", "(C)V"⟩ ∈ gw_tbl := gw_at 9 (by decide +kernel) (by decide +kernel)
theorem mw_10 : Cond.selects "DroveRoads$Parser" ⟨"DroveRoads$Parser", "readLine", "()Z"⟩ ⟨"DroveRoads$Parser", "readLine", "()Z"⟩ ∈ gw_tbl := gw_at 10 (by decide +kernel) (by decide +kernel)
theorem mw_11 : Cond.selects "DroveRoads$Parser" ⟨"DroveRoads$Parser", "take", "(I)Z"⟩ ⟨"DroveRoads$Parser", "take", "(I)Z"⟩ ∈ gw_tbl := gw_at 11 (by decide +kernel) (by decide +kernel)
theorem mw_12 : Cond.selects "DroveRoads$Parser" ⟨"DroveRoads$Parser", "refuse", "()Z"⟩ ⟨"DroveRoads$Parser", "refuse", "()Z"⟩ ∈ gw_tbl := gw_at 12 (by decide +kernel) (by decide +kernel)
theorem mw_13 : Cond.selects "DroveRoads$Parser" ⟨"DroveRoads$Parser", "refuseFor", "(I)Z"⟩ ⟨"DroveRoads$Parser", "refuseFor", "(I)Z"⟩ ∈ gw_tbl := gw_at 13 (by decide +kernel) (by decide +kernel)
theorem mw_14 : Cond.selects "DroveRoads$Parser" ⟨"DroveRoads$Parser", "readE", "(I)Z"⟩ ⟨"DroveRoads$Parser", "readE", "(I)Z"⟩ ∈ gw_tbl := gw_at 14 (by decide +kernel) (by decide +kernel)
theorem mw_15 : Cond.selects "DroveRoads$Parser" ⟨"DroveRoads$Parser", "readBoth", "(I)Z"⟩ ⟨"DroveRoads$Parser", "readBoth", "(I)Z"⟩ ∈ gw_tbl := gw_at 15 (by decide +kernel) (by decide +kernel)
theorem mw_16 : Cond.selects "DroveRoads$Parser" ⟨"DroveRoads$Parser", "readOne", "(I)Z"⟩ ⟨"DroveRoads$Parser", "readOne", "(I)Z"⟩ ∈ gw_tbl := gw_at 16 (by decide +kernel) (by decide +kernel)
theorem mw_17 : Cond.selects "DroveRoads$Parser" ⟨"DroveRoads$Parser", "write", "(I)Z"⟩ ⟨"DroveRoads$Parser", "write", "(I)Z"⟩ ∈ gw_tbl := gw_at 17 (by decide +kernel) (by decide +kernel)
theorem mw_18 : Cond.selects "DroveRoads$Parser" ⟨"DroveRoads$Parser", "readSum", "(I)Z"⟩ ⟨"DroveRoads$Parser", "readSum", "(I)Z"⟩ ∈ gw_tbl := gw_at 18 (by decide +kernel) (by decide +kernel)
theorem mw_19 : Cond.selects "DroveRoads$Parser" ⟨"DroveRoads$Parser", "readTerm", "(I)Z"⟩ ⟨"DroveRoads$Parser", "readTerm", "(I)Z"⟩ ∈ gw_tbl := gw_at 19 (by decide +kernel) (by decide +kernel)
theorem mw_20 : Cond.selects "DroveRoads$Parser" ⟨"DroveRoads$Parser", "readOperand", "()Z"⟩ ⟨"DroveRoads$Parser", "readOperand", "()Z"⟩ ∈ gw_tbl := gw_at 20 (by decide +kernel) (by decide +kernel)
theorem mw_21 : Cond.selects "DroveRoads$Parser" ⟨"DroveRoads$Parser", "readAct", "()Z"⟩ ⟨"DroveRoads$Parser", "readAct", "()Z"⟩ ∈ gw_tbl := gw_at 21 (by decide +kernel) (by decide +kernel)
theorem mw_22 : Cond.selects "DroveRoads$Parser" ⟨"DroveRoads$Parser", "endLine", "(I)Z"⟩ ⟨"DroveRoads$Parser", "endLine", "(I)Z"⟩ ∈ gw_tbl := gw_at 22 (by decide +kernel) (by decide +kernel)
theorem mw_23 : Cond.selects "DroveRoads" ⟨"DroveRoads", "passDay", "()V"⟩ ⟨"DroveRoads", "passDay", "()V"⟩ ∈ gw_tbl := gw_at 23 (by decide +kernel) (by decide +kernel)
theorem mw_24 : Cond.selects "DroveRoads" ⟨"DroveRoads", "drive", "(LDroveRoads$Herd;)V"⟩ ⟨"DroveRoads", "drive", "(LDroveRoads$Herd;)V"⟩ ∈ gw_tbl := gw_at 24 (by decide +kernel) (by decide +kernel)
theorem mw_25 : Cond.selects "DroveRoads$Reckoner" ⟨"DroveRoads$Reckoner", "reckon", "([III)I"⟩ ⟨"DroveRoads$Reckoner", "reckon", "([III)I"⟩ ∈ gw_tbl := gw_at 25 (by decide +kernel) (by decide +kernel)
theorem mw_26 : Cond.selects "DroveRoads$Reckoner" ⟨"DroveRoads$Reckoner", "push", "(I)V"⟩ ⟨"DroveRoads$Reckoner", "push", "(I)V"⟩ ∈ gw_tbl := gw_at 26 (by decide +kernel) (by decide +kernel)
theorem mw_27 : Cond.selects "DroveRoads$Reckoner" ⟨"DroveRoads$Reckoner", "reckonToken", "(I)V"⟩ ⟨"DroveRoads$Reckoner", "reckonToken", "(I)V"⟩ ∈ gw_tbl := gw_at 27 (by decide +kernel) (by decide +kernel)
theorem mw_28 : Cond.selects "DroveRoads$Reckoner" ⟨"DroveRoads$Reckoner", "pop", "()I"⟩ ⟨"DroveRoads$Reckoner", "pop", "()I"⟩ ∈ gw_tbl := gw_at 28 (by decide +kernel) (by decide +kernel)
theorem mw_29 : Cond.selects "DroveRoads" ⟨"DroveRoads", "walkOn", "(LDroveRoads$Herd;)V"⟩ ⟨"DroveRoads", "walkOn", "(LDroveRoads$Herd;)V"⟩ ∈ gw_tbl := gw_at 29 (by decide +kernel) (by decide +kernel)
theorem mw_30 : Cond.selects "DroveRoads$Herd" ⟨"DroveRoads$Herd", "sellHeads", "(I)I"⟩ ⟨"DroveRoads$Herd", "sellHeads", "(I)I"⟩ ∈ gw_tbl := gw_at 30 (by decide +kernel) (by decide +kernel)
theorem mw_31 : Cond.selects "DroveRoads$Herd" ⟨"DroveRoads$Herd", "earn", "(I)V"⟩ ⟨"DroveRoads$Herd", "earn", "(I)V"⟩ ∈ gw_tbl := gw_at 31 (by decide +kernel) (by decide +kernel)
theorem mw_32 : Cond.selects "DroveRoads" ⟨"DroveRoads", "findWay", "(II)LDroveRoads$LoneWay;"⟩ ⟨"DroveRoads", "findWay", "(II)LDroveRoads$LoneWay;"⟩ ∈ gw_tbl := gw_at 32 (by decide +kernel) (by decide +kernel)
theorem mw_33 : Cond.selects "DroveRoads$LoneWay" ⟨"DroveRoads$LoneWay", "mayWalk", "(II)Z"⟩ ⟨"DroveRoads$LoneWay", "mayWalk", "(II)Z"⟩ ∈ gw_tbl := gw_at 33 (by decide +kernel) (by decide +kernel)
theorem mw_34 : Cond.selects "DroveRoads$Passings" ⟨"DroveRoads$Passings", "placeByDay", "(I)V"⟩ ⟨"DroveRoads$Passings", "placeByDay", "(I)V"⟩ ∈ gw_tbl := gw_at 34 (by decide +kernel) (by decide +kernel)
theorem mw_35 : Cond.selects "DroveRoads$Passings" ⟨"DroveRoads$Passings", "isKnown", "(II)Z"⟩ ⟨"DroveRoads$Passings", "isKnown", "(II)Z"⟩ ∈ gw_tbl := gw_at 35 (by decide +kernel) (by decide +kernel)
theorem mw_36 : Cond.selects "DroveRoadsModel" ⟨"DroveRoadsModel", "isStance", "(I)Z"⟩ ⟨"DroveRoadsModel", "isStance", "(I)Z"⟩ ∈ gw_tbl := gw_at 36 (by decide +kernel) (by decide +kernel)
theorem mw_37 : Cond.selects "DroveRoadsModel" ⟨"DroveRoadsModel", "fair", "()I"⟩ ⟨"DroveRoadsModel", "fair", "()I"⟩ ∈ gw_tbl := gw_at 37 (by decide +kernel) (by decide +kernel)
theorem mw_38 : Cond.selects "DroveRoadsModel" ⟨"DroveRoadsModel", "knownAt", "(II)I"⟩ ⟨"DroveRoadsModel", "knownAt", "(II)I"⟩ ∈ gw_tbl := gw_at 38 (by decide +kernel) (by decide +kernel)
theorem mw_39 : Cond.selects "DroveRoadsModel" ⟨"DroveRoadsModel", "toFair", "(I)I"⟩ ⟨"DroveRoadsModel", "toFair", "(I)I"⟩ ∈ gw_tbl := gw_at 39 (by decide +kernel) (by decide +kernel)
theorem mw_40 : Cond.selects "DroveRoadsModel" ⟨"DroveRoadsModel", "isHerd", "(I)Z"⟩ ⟨"DroveRoadsModel", "isHerd", "(I)Z"⟩ ∈ gw_tbl := gw_at 40 (by decide +kernel) (by decide +kernel)
theorem mw_41 : Cond.selects "DroveRoadsModel" ⟨"DroveRoadsModel", "four", "(I)V"⟩ ⟨"DroveRoadsModel", "four", "(I)V"⟩ ∈ gw_tbl := gw_at 41 (by decide +kernel) (by decide +kernel)
theorem mw_42 : Cond.selects "DroveRoadsModel" ⟨"DroveRoadsModel", "next", "()V"⟩ ⟨"DroveRoadsModel", "next", "()V"⟩ ∈ gw_tbl := gw_at 42 (by decide +kernel) (by decide +kernel)
theorem mw_43 : Cond.selects "DroveRoadsModel" ⟨"DroveRoadsModel", "here", "(I)I"⟩ ⟨"DroveRoadsModel", "here", "(I)I"⟩ ∈ gw_tbl := gw_at 43 (by decide +kernel) (by decide +kernel)
theorem mw_44 : Cond.selects "DroveRoadsModel" ⟨"DroveRoadsModel", "isWord", "(J)Z"⟩ ⟨"DroveRoadsModel", "isWord", "(J)Z"⟩ ∈ gw_tbl := gw_at 44 (by decide +kernel) (by decide +kernel)
theorem mw_45 : Cond.selects "DroveRoadsModel" ⟨"DroveRoadsModel", "wrong", "(I)V"⟩ ⟨"DroveRoadsModel", "wrong", "(I)V"⟩ ∈ gw_tbl := gw_at 45 (by decide +kernel) (by decide +kernel)
theorem mw_46 : Cond.selects "DroveRoadsModel" ⟨"DroveRoadsModel", "readE", "()V"⟩ ⟨"DroveRoadsModel", "readE", "()V"⟩ ∈ gw_tbl := gw_at 46 (by decide +kernel) (by decide +kernel)
theorem mw_47 : Cond.selects "DroveRoadsModel" ⟨"DroveRoadsModel", "isOpen", "()Z"⟩ ⟨"DroveRoadsModel", "isOpen", "()Z"⟩ ∈ gw_tbl := gw_at 47 (by decide +kernel) (by decide +kernel)
theorem mw_48 : Cond.selects "DroveRoadsModel" ⟨"DroveRoadsModel", "sign", "()I"⟩ ⟨"DroveRoadsModel", "sign", "()I"⟩ ∈ gw_tbl := gw_at 48 (by decide +kernel) (by decide +kernel)
theorem mw_49 : Cond.selects "DroveRoadsModel" ⟨"DroveRoadsModel", "settle", "(I)V"⟩ ⟨"DroveRoadsModel", "settle", "(I)V"⟩ ∈ gw_tbl := gw_at 49 (by decide +kernel) (by decide +kernel)
theorem mw_50 : Cond.selects "DroveRoadsModel" ⟨"DroveRoadsModel", "pop", "()V"⟩ ⟨"DroveRoadsModel", "pop", "()V"⟩ ∈ gw_tbl := gw_at 50 (by decide +kernel) (by decide +kernel)
theorem mw_51 : Cond.selects "DroveRoadsModel" ⟨"DroveRoadsModel", "step", "(II)V"⟩ ⟨"DroveRoadsModel", "step", "(II)V"⟩ ∈ gw_tbl := gw_at 51 (by decide +kernel) (by decide +kernel)
theorem mw_52 : Cond.selects "DroveRoadsModel" ⟨"DroveRoadsModel", "hold", "(I)V"⟩ ⟨"DroveRoadsModel", "hold", "(I)V"⟩ ∈ gw_tbl := gw_at 52 (by decide +kernel) (by decide +kernel)
theorem mw_53 : Cond.selects "DroveRoadsModel" ⟨"DroveRoadsModel", "settleOnes", "(Z)V"⟩ ⟨"DroveRoadsModel", "settleOnes", "(Z)V"⟩ ∈ gw_tbl := gw_at 53 (by decide +kernel) (by decide +kernel)
theorem mw_54 : Cond.selects "DroveRoadsModel" ⟨"DroveRoadsModel", "operand", "(I)I"⟩ ⟨"DroveRoadsModel", "operand", "(I)I"⟩ ∈ gw_tbl := gw_at 54 (by decide +kernel) (by decide +kernel)
theorem mw_55 : Cond.selects "DroveRoadsModel" ⟨"DroveRoadsModel", "isKey", "()Z"⟩ ⟨"DroveRoadsModel", "isKey", "()Z"⟩ ∈ gw_tbl := gw_at 55 (by decide +kernel) (by decide +kernel)
theorem mw_56 : Cond.selects "DroveRoadsModel" ⟨"DroveRoadsModel", "named", "()I"⟩ ⟨"DroveRoadsModel", "named", "()I"⟩ ∈ gw_tbl := gw_at 56 (by decide +kernel) (by decide +kernel)
theorem mw_57 : Cond.selects "DroveRoadsModel" ⟨"DroveRoadsModel", "readAct", "()V"⟩ ⟨"DroveRoadsModel", "readAct", "()V"⟩ ∈ gw_tbl := gw_at 57 (by decide +kernel) (by decide +kernel)
theorem mw_58 : Cond.selects "DroveRoadsModel" ⟨"DroveRoadsModel", "go", "(I)V"⟩ ⟨"DroveRoadsModel", "go", "(I)V"⟩ ∈ gw_tbl := gw_at 58 (by decide +kernel) (by decide +kernel)
theorem mw_59 : Cond.selects "DroveRoadsModel" ⟨"DroveRoadsModel", "holds", "(II)Z"⟩ ⟨"DroveRoadsModel", "holds", "(II)Z"⟩ ∈ gw_tbl := gw_at 59 (by decide +kernel) (by decide +kernel)
theorem mw_60 : Cond.selects "DroveRoadsModel" ⟨"DroveRoadsModel", "earn", "(IIII)V"⟩ ⟨"DroveRoadsModel", "earn", "(IIII)V"⟩ ∈ gw_tbl := gw_at 60 (by decide +kernel) (by decide +kernel)
theorem mw_61 : Cond.selects "DroveRoadsModel" ⟨"DroveRoadsModel", "rest", "(I)V"⟩ ⟨"DroveRoadsModel", "rest", "(I)V"⟩ ∈ gw_tbl := gw_at 61 (by decide +kernel) (by decide +kernel)
theorem mw_62 : Cond.selects "DroveRoadsModel" ⟨"DroveRoadsModel", "walk", "(I)V"⟩ ⟨"DroveRoadsModel", "walk", "(I)V"⟩ ∈ gw_tbl := gw_at 62 (by decide +kernel) (by decide +kernel)
theorem mw_63 : Cond.selects "DroveRoadsModel" ⟨"DroveRoadsModel", "eat", "(IZ)V"⟩ ⟨"DroveRoadsModel", "eat", "(IZ)V"⟩ ∈ gw_tbl := gw_at 63 (by decide +kernel) (by decide +kernel)
theorem mw_64 : Cond.selects "DroveRoadsModel" ⟨"DroveRoadsModel", "fill", "(II)Z"⟩ ⟨"DroveRoadsModel", "fill", "(II)Z"⟩ ∈ gw_tbl := gw_at 64 (by decide +kernel) (by decide +kernel)
theorem mw_65 : Cond.selects "DroveRoadsModel" ⟨"DroveRoadsModel", "isBill", "(I)Z"⟩ ⟨"DroveRoadsModel", "isBill", "(I)Z"⟩ ∈ gw_tbl := gw_at 65 (by decide +kernel) (by decide +kernel)
theorem mw_66 : Cond.initialized "DroveRoadsLaw" ∈ gw_tbl := gw_at 66 (by decide +kernel) (by decide +kernel)
theorem mw_67 : Cond.initialized "DroveRoads" ∈ gw_tbl := gw_at 67 (by decide +kernel) (by decide +kernel)
theorem mw_68 : Cond.initialized "DroveRoads$Road" ∈ gw_tbl := gw_at 68 (by decide +kernel) (by decide +kernel)
theorem mw_69 : Cond.initialized "DroveRoads$Letters" ∈ gw_tbl := gw_at 69 (by decide +kernel) (by decide +kernel)
theorem mw_70 : Cond.initialized "DroveRoads$Bills" ∈ gw_tbl := gw_at 70 (by decide +kernel) (by decide +kernel)
theorem mw_71 : Cond.initialized "DroveRoads$Passings" ∈ gw_tbl := gw_at 71 (by decide +kernel) (by decide +kernel)
theorem mw_72 : Cond.initialized "DroveRoads$Reckoner" ∈ gw_tbl := gw_at 72 (by decide +kernel) (by decide +kernel)
theorem mw_73 : Cond.initialized "DroveRoads$Orders" ∈ gw_tbl := gw_at 73 (by decide +kernel) (by decide +kernel)
theorem mw_74 : Cond.initialized "DroveRoadsModel" ∈ gw_tbl := gw_at 74 (by decide +kernel) (by decide +kernel)
theorem mw_75 : Cond.initialized "DroveRoads$Herd" ∈ gw_tbl := gw_at 75 (by decide +kernel) (by decide +kernel)
theorem mw_76 : Cond.initialized "DroveRoads$Parser" ∈ gw_tbl := gw_at 76 (by decide +kernel) (by decide +kernel)
theorem mw_77 : Cond.initialized "DroveRoads$Lexer" ∈ gw_tbl := gw_at 77 (by decide +kernel) (by decide +kernel)
theorem mw_78 : Cond.initialized "java/lang/Math" ∈ gw_tbl := gw_at 78 (by decide +kernel) (by decide +kernel)
theorem mw_79 : Cond.initialized "java/lang/String" ∈ gw_tbl := gw_at 79 (by decide +kernel) (by decide +kernel)
theorem mw_80 : Cond.initialized "java/lang/StringLatin1" ∈ gw_tbl := gw_at 80 (by decide +kernel) (by decide +kernel)
theorem mw_81 : Cond.initialized "jdk/internal/util/Preconditions" ∈ gw_tbl := gw_at 81 (by decide +kernel) (by decide +kernel)
theorem mw_82 : Cond.initialized "java/lang/StringUTF16" ∈ gw_tbl := gw_at 82 (by decide +kernel) (by decide +kernel)
theorem mw_83 : Cond.initialized "java/lang/Character" ∈ gw_tbl := gw_at 83 (by decide +kernel) (by decide +kernel)
theorem mw_84 : Cond.initialized "DroveRoads$LoneWay" ∈ gw_tbl := gw_at 84 (by decide +kernel) (by decide +kernel)
theorem mw_85 : Cond.classLink "DroveRoadsLaw" 7 "DroveRoads" ∈ gw_tbl := gw_at 85 (by decide +kernel) (by decide +kernel)
theorem mw_86 : Cond.instantiable "DroveRoads" 12 ∈ gw_tbl := gw_at 86 (by decide +kernel) (by decide +kernel)
theorem mw_87 : Cond.methodLink "DroveRoadsLaw" 9 ⟨"DroveRoads", "<init>", "()V"⟩ ∈ gw_tbl := gw_at 87 (by decide +kernel) (by decide +kernel)
theorem mw_88 : Cond.instanceMethod ⟨"DroveRoads", "<init>", "()V"⟩ ∈ gw_tbl := gw_at 88 (by decide +kernel) (by decide +kernel)
theorem mw_89 : Cond.code ⟨"DroveRoads", "<init>", "()V"⟩ prog_1_method_1_code 1 none ∈ gw_tbl := gw_at 89 (by decide +kernel) (by decide +kernel)
theorem mw_90 : Cond.methodLink "DroveRoads" 1 ⟨"java/lang/Object", "<init>", "()V"⟩ ∈ gw_tbl := gw_at 90 (by decide +kernel) (by decide +kernel)
theorem mw_91 : Cond.instanceMethod ⟨"java/lang/Object", "<init>", "()V"⟩ ∈ gw_tbl := gw_at 91 (by decide +kernel) (by decide +kernel)
theorem mw_92 : Cond.code ⟨"java/lang/Object", "<init>", "()V"⟩ object_method_1_code 1 none ∈ gw_tbl := gw_at 92 (by decide +kernel) (by decide +kernel)
theorem mw_93 : Cond.classLink "DroveRoads" 7 "DroveRoads$Road" ∈ gw_tbl := gw_at 93 (by decide +kernel) (by decide +kernel)
theorem mw_94 : Cond.instantiable "DroveRoads$Road" 7 ∈ gw_tbl := gw_at 94 (by decide +kernel) (by decide +kernel)
theorem mw_95 : Cond.methodLink "DroveRoads" 9 ⟨"DroveRoads$Road", "<init>", "()V"⟩ ∈ gw_tbl := gw_at 95 (by decide +kernel) (by decide +kernel)
theorem mw_96 : Cond.instanceMethod ⟨"DroveRoads$Road", "<init>", "()V"⟩ ∈ gw_tbl := gw_at 96 (by decide +kernel) (by decide +kernel)
theorem mw_97 : Cond.code ⟨"DroveRoads$Road", "<init>", "()V"⟩ prog_11_method_1_code 1 none ∈ gw_tbl := gw_at 97 (by decide +kernel) (by decide +kernel)
theorem mw_98 : Cond.methodLink "DroveRoads$Road" 3 ⟨"java/lang/Object", "<init>", "()V"⟩ ∈ gw_tbl := gw_at 98 (by decide +kernel) (by decide +kernel)
theorem mw_99 : Cond.fieldLink "DroveRoads$Road" 9 "DroveRoads$Road" "stances" "I" ∈ gw_tbl := gw_at 99 (by decide +kernel) (by decide +kernel)
theorem mw_100 : Cond.fieldLink "DroveRoads" 183 "DroveRoads$Road" "stances" "I" ∈ gw_tbl := gw_at 100 (by decide +kernel) (by decide +kernel)
theorem mw_101 : Cond.fieldLink "DroveRoads$Road" 15 "DroveRoads$Road" "stageMiles" "[I" ∈ gw_tbl := gw_at 101 (by decide +kernel) (by decide +kernel)
theorem mw_102 : Cond.fieldLink "DroveRoads$Road" 19 "DroveRoads$Road" "toFair" "[I" ∈ gw_tbl := gw_at 102 (by decide +kernel) (by decide +kernel)
theorem mw_103 : Cond.fieldLink "DroveRoads$Road" 22 "DroveRoads$Road" "grassNow" "[I" ∈ gw_tbl := gw_at 103 (by decide +kernel) (by decide +kernel)
theorem mw_104 : Cond.fieldLink "DroveRoads$Road" 25 "DroveRoads$Road" "grassGrows" "[I" ∈ gw_tbl := gw_at 104 (by decide +kernel) (by decide +kernel)
theorem mw_105 : Cond.fieldLink "DroveRoads$Road" 28 "DroveRoads$Road" "grassMost" "[I" ∈ gw_tbl := gw_at 105 (by decide +kernel) (by decide +kernel)
theorem mw_106 : Cond.fieldLink "DroveRoads$Road" 31 "DroveRoads$Road" "leftBefore" "[I" ∈ gw_tbl := gw_at 106 (by decide +kernel) (by decide +kernel)
theorem mw_122 : Cond.arrayClass .int ∈ gw_tbl := gw_at 122 (by decide +kernel) (by decide +kernel)
theorem mw_123 : Cond.classLink "DroveRoads" 16 "DroveRoads$Letters" ∈ gw_tbl := gw_at 123 (by decide +kernel) (by decide +kernel)
theorem mw_124 : Cond.instantiable "DroveRoads$Letters" 3 ∈ gw_tbl := gw_at 124 (by decide +kernel) (by decide +kernel)
theorem mw_126 : Cond.instanceMethod ⟨"DroveRoads$Letters", "<init>", "()V"⟩ ∈ gw_tbl := gw_at 126 (by decide +kernel) (by decide +kernel)
theorem mw_127 : Cond.code ⟨"DroveRoads$Letters", "<init>", "()V"⟩ prog_4_method_1_code 1 none ∈ gw_tbl := gw_at 127 (by decide +kernel) (by decide +kernel)
theorem mw_128 : Cond.methodLink "DroveRoads$Letters" 3 ⟨"java/lang/Object", "<init>", "()V"⟩ ∈ gw_tbl := gw_at 128 (by decide +kernel) (by decide +kernel)
theorem mw_129 : Cond.fieldLink "DroveRoads$Letters" 9 "DroveRoads$Letters" "count" "I" ∈ gw_tbl := gw_at 129 (by decide +kernel) (by decide +kernel)
theorem mw_130 : Cond.fieldLink "DroveRoads" 186 "DroveRoads$Letters" "count" "I" ∈ gw_tbl := gw_at 130 (by decide +kernel) (by decide +kernel)
theorem mw_131 : Cond.fieldLink "DroveRoads$Letters" 15 "DroveRoads$Letters" "prices" "[I" ∈ gw_tbl := gw_at 131 (by decide +kernel) (by decide +kernel)
theorem mw_132 : Cond.fieldLink "DroveRoads$Letters" 19 "DroveRoads$Letters" "sentOn" "[I" ∈ gw_tbl := gw_at 132 (by decide +kernel) (by decide +kernel)
theorem mw_140 : Cond.classLink "DroveRoads" 23 "DroveRoads$Bills" ∈ gw_tbl := gw_at 140 (by decide +kernel) (by decide +kernel)
theorem mw_141 : Cond.instantiable "DroveRoads$Bills" 7 ∈ gw_tbl := gw_at 141 (by decide +kernel) (by decide +kernel)
theorem mw_143 : Cond.instanceMethod ⟨"DroveRoads$Bills", "<init>", "()V"⟩ ∈ gw_tbl := gw_at 143 (by decide +kernel) (by decide +kernel)
theorem mw_144 : Cond.code ⟨"DroveRoads$Bills", "<init>", "()V"⟩ prog_2_method_1_code 1 none ∈ gw_tbl := gw_at 144 (by decide +kernel) (by decide +kernel)
theorem mw_145 : Cond.methodLink "DroveRoads$Bills" 3 ⟨"java/lang/Object", "<init>", "()V"⟩ ∈ gw_tbl := gw_at 145 (by decide +kernel) (by decide +kernel)
theorem mw_146 : Cond.classLink "DroveRoads$Bills" 15 "DroveRoads$Passings" ∈ gw_tbl := gw_at 146 (by decide +kernel) (by decide +kernel)
theorem mw_147 : Cond.instantiable "DroveRoads$Passings" 8 ∈ gw_tbl := gw_at 147 (by decide +kernel) (by decide +kernel)
theorem mw_149 : Cond.instanceMethod ⟨"DroveRoads$Passings", "<init>", "()V"⟩ ∈ gw_tbl := gw_at 149 (by decide +kernel) (by decide +kernel)
theorem mw_150 : Cond.code ⟨"DroveRoads$Passings", "<init>", "()V"⟩ prog_9_method_1_code 1 none ∈ gw_tbl := gw_at 150 (by decide +kernel) (by decide +kernel)
theorem mw_151 : Cond.methodLink "DroveRoads$Passings" 3 ⟨"java/lang/Object", "<init>", "()V"⟩ ∈ gw_tbl := gw_at 151 (by decide +kernel) (by decide +kernel)
theorem mw_152 : Cond.fieldLink "DroveRoads$Passings" 9 "DroveRoads$Passings" "count" "I" ∈ gw_tbl := gw_at 152 (by decide +kernel) (by decide +kernel)
theorem mw_153 : Cond.fieldLink "DroveRoads" 190 "DroveRoads$Passings" "count" "I" ∈ gw_tbl := gw_at 153 (by decide +kernel) (by decide +kernel)
theorem mw_154 : Cond.fieldLink "DroveRoads$Passings" 15 "DroveRoads$Passings" "billOf" "[I" ∈ gw_tbl := gw_at 154 (by decide +kernel) (by decide +kernel)
theorem mw_155 : Cond.fieldLink "DroveRoads$Passings" 19 "DroveRoads$Passings" "fromHand" "[I" ∈ gw_tbl := gw_at 155 (by decide +kernel) (by decide +kernel)
theorem mw_156 : Cond.fieldLink "DroveRoads$Passings" 22 "DroveRoads$Passings" "toHand" "[I" ∈ gw_tbl := gw_at 156 (by decide +kernel) (by decide +kernel)
theorem mw_157 : Cond.fieldLink "DroveRoads$Passings" 25 "DroveRoads$Passings" "passedOn" "[I" ∈ gw_tbl := gw_at 157 (by decide +kernel) (by decide +kernel)
theorem mw_158 : Cond.fieldLink "DroveRoads$Passings" 28 "DroveRoads$Passings" "toldOn" "[I" ∈ gw_tbl := gw_at 158 (by decide +kernel) (by decide +kernel)
theorem mw_159 : Cond.fieldLink "DroveRoads$Passings" 31 "DroveRoads$Passings" "untoldOn" "[I" ∈ gw_tbl := gw_at 159 (by decide +kernel) (by decide +kernel)
theorem mw_160 : Cond.fieldLink "DroveRoads$Passings" 34 "DroveRoads$Passings" "byDay" "[I" ∈ gw_tbl := gw_at 160 (by decide +kernel) (by decide +kernel)
theorem mw_178 : Cond.fieldLink "DroveRoads$Bills" 9 "DroveRoads$Bills" "count" "I" ∈ gw_tbl := gw_at 178 (by decide +kernel) (by decide +kernel)
theorem mw_179 : Cond.fieldLink "DroveRoads" 189 "DroveRoads$Bills" "count" "I" ∈ gw_tbl := gw_at 179 (by decide +kernel) (by decide +kernel)
theorem mw_180 : Cond.fieldLink "DroveRoads$Bills" 18 "DroveRoads$Bills" "passings" "LDroveRoads$Passings;" ∈ gw_tbl := gw_at 180 (by decide +kernel) (by decide +kernel)
theorem mw_181 : Cond.fieldLink "DroveRoads" 162 "DroveRoads$Bills" "passings" "LDroveRoads$Passings;" ∈ gw_tbl := gw_at 181 (by decide +kernel) (by decide +kernel)
theorem mw_182 : Cond.fieldLink "DroveRoads$Bills" 22 "DroveRoads$Bills" "amounts" "[I" ∈ gw_tbl := gw_at 182 (by decide +kernel) (by decide +kernel)
theorem mw_183 : Cond.fieldLink "DroveRoads$Bills" 26 "DroveRoads$Bills" "hands" "[I" ∈ gw_tbl := gw_at 183 (by decide +kernel) (by decide +kernel)
theorem mw_184 : Cond.fieldLink "DroveRoads$Bills" 29 "DroveRoads$Bills" "dueOn" "[I" ∈ gw_tbl := gw_at 184 (by decide +kernel) (by decide +kernel)
theorem mw_185 : Cond.fieldLink "DroveRoads$Bills" 32 "DroveRoads$Bills" "paidOn" "[I" ∈ gw_tbl := gw_at 185 (by decide +kernel) (by decide +kernel)
theorem mw_186 : Cond.fieldLink "DroveRoads$Bills" 35 "DroveRoads$Bills" "paidTo" "[I" ∈ gw_tbl := gw_at 186 (by decide +kernel) (by decide +kernel)
theorem mw_202 : Cond.classLink "DroveRoads" 30 "DroveRoads$Herd" ∈ gw_tbl := gw_at 202 (by decide +kernel) (by decide +kernel)
theorem mw_204 : Cond.classLink "DroveRoads" 40 "DroveRoads$Reckoner" ∈ gw_tbl := gw_at 204 (by decide +kernel) (by decide +kernel)
theorem mw_205 : Cond.instantiable "DroveRoads$Reckoner" 3 ∈ gw_tbl := gw_at 205 (by decide +kernel) (by decide +kernel)
theorem mw_207 : Cond.instanceMethod ⟨"DroveRoads$Reckoner", "<init>", "()V"⟩ ∈ gw_tbl := gw_at 207 (by decide +kernel) (by decide +kernel)
theorem mw_208 : Cond.code ⟨"DroveRoads$Reckoner", "<init>", "()V"⟩ prog_10_method_1_code 1 none ∈ gw_tbl := gw_at 208 (by decide +kernel) (by decide +kernel)
theorem mw_209 : Cond.methodLink "DroveRoads$Reckoner" 3 ⟨"java/lang/Object", "<init>", "()V"⟩ ∈ gw_tbl := gw_at 209 (by decide +kernel) (by decide +kernel)
theorem mw_210 : Cond.fieldLink "DroveRoads$Reckoner" 11 "DroveRoads$Reckoner" "nameValues" "[I" ∈ gw_tbl := gw_at 210 (by decide +kernel) (by decide +kernel)
theorem mw_211 : Cond.fieldLink "DroveRoads$Reckoner" 19 "DroveRoads$Reckoner" "stack" "[I" ∈ gw_tbl := gw_at 211 (by decide +kernel) (by decide +kernel)
theorem mw_212 : Cond.fieldLink "DroveRoads$Reckoner" 22 "DroveRoads$Reckoner" "top" "I" ∈ gw_tbl := gw_at 212 (by decide +kernel) (by decide +kernel)
theorem mw_220 : Cond.arrayClass .byte ∈ gw_tbl := gw_at 220 (by decide +kernel) (by decide +kernel)
theorem mw_221 : Cond.classLink "DroveRoads" 47 "DroveRoads$Orders" ∈ gw_tbl := gw_at 221 (by decide +kernel) (by decide +kernel)
theorem mw_222 : Cond.instantiable "DroveRoads$Orders" 5 ∈ gw_tbl := gw_at 222 (by decide +kernel) (by decide +kernel)
theorem mw_224 : Cond.instanceMethod ⟨"DroveRoads$Orders", "<init>", "()V"⟩ ∈ gw_tbl := gw_at 224 (by decide +kernel) (by decide +kernel)
theorem mw_225 : Cond.code ⟨"DroveRoads$Orders", "<init>", "()V"⟩ prog_7_method_1_code 1 none ∈ gw_tbl := gw_at 225 (by decide +kernel) (by decide +kernel)
theorem mw_226 : Cond.methodLink "DroveRoads$Orders" 3 ⟨"java/lang/Object", "<init>", "()V"⟩ ∈ gw_tbl := gw_at 226 (by decide +kernel) (by decide +kernel)
theorem mw_227 : Cond.fieldLink "DroveRoads$Orders" 9 "DroveRoads$Orders" "cells" "[I" ∈ gw_tbl := gw_at 227 (by decide +kernel) (by decide +kernel)
theorem mw_228 : Cond.fieldLink "DroveRoads$Reckoner" 61 "DroveRoads$Orders" "cells" "[I" ∈ gw_tbl := gw_at 228 (by decide +kernel) (by decide +kernel)
theorem mw_229 : Cond.fieldLink "DroveRoads$Orders" 15 "DroveRoads$Orders" "cellsEnd" "[I" ∈ gw_tbl := gw_at 229 (by decide +kernel) (by decide +kernel)
theorem mw_230 : Cond.fieldLink "DroveRoads$Reckoner" 58 "DroveRoads$Orders" "cellsEnd" "[I" ∈ gw_tbl := gw_at 230 (by decide +kernel) (by decide +kernel)
theorem mw_231 : Cond.fieldLink "DroveRoads$Orders" 18 "DroveRoads$Orders" "acts" "[I" ∈ gw_tbl := gw_at 231 (by decide +kernel) (by decide +kernel)
theorem mw_232 : Cond.fieldLink "DroveRoads$Reckoner" 68 "DroveRoads$Orders" "acts" "[I" ∈ gw_tbl := gw_at 232 (by decide +kernel) (by decide +kernel)
theorem mw_233 : Cond.fieldLink "DroveRoads$Orders" 21 "DroveRoads$Orders" "lines" "I" ∈ gw_tbl := gw_at 233 (by decide +kernel) (by decide +kernel)
theorem mw_234 : Cond.fieldLink "DroveRoads$Reckoner" 53 "DroveRoads$Orders" "lines" "I" ∈ gw_tbl := gw_at 234 (by decide +kernel) (by decide +kernel)
theorem mw_235 : Cond.fieldLink "DroveRoads$Herd" 74 "DroveRoads$Orders" "lines" "I" ∈ gw_tbl := gw_at 235 (by decide +kernel) (by decide +kernel)
theorem mw_236 : Cond.fieldLink "DroveRoads" 128 "DroveRoads$Orders" "lines" "I" ∈ gw_tbl := gw_at 236 (by decide +kernel) (by decide +kernel)
theorem mw_237 : Cond.fieldLink "DroveRoads$Orders" 25 "DroveRoads$Orders" "cellCount" "I" ∈ gw_tbl := gw_at 237 (by decide +kernel) (by decide +kernel)
theorem mw_249 : Cond.fieldLink "DroveRoads" 10 "DroveRoads" "road" "LDroveRoads$Road;" ∈ gw_tbl := gw_at 249 (by decide +kernel) (by decide +kernel)
theorem mw_250 : Cond.fieldLink "DroveRoads" 19 "DroveRoads" "letters" "LDroveRoads$Letters;" ∈ gw_tbl := gw_at 250 (by decide +kernel) (by decide +kernel)
theorem mw_251 : Cond.fieldLink "DroveRoads" 26 "DroveRoads" "bills" "LDroveRoads$Bills;" ∈ gw_tbl := gw_at 251 (by decide +kernel) (by decide +kernel)
theorem mw_252 : Cond.fieldLink "DroveRoads" 32 "DroveRoads" "herds" "[LDroveRoads$Herd;" ∈ gw_tbl := gw_at 252 (by decide +kernel) (by decide +kernel)
theorem mw_253 : Cond.fieldLink "DroveRoads" 36 "DroveRoads" "tape" "[B" ∈ gw_tbl := gw_at 253 (by decide +kernel) (by decide +kernel)
theorem mw_254 : Cond.fieldLink "DroveRoads" 43 "DroveRoads" "reckoner" "LDroveRoads$Reckoner;" ∈ gw_tbl := gw_at 254 (by decide +kernel) (by decide +kernel)
theorem mw_255 : Cond.fieldLink "DroveRoads" 50 "DroveRoads" "spareOrders" "LDroveRoads$Orders;" ∈ gw_tbl := gw_at 255 (by decide +kernel) (by decide +kernel)
theorem mw_256 : Cond.fieldLink "DroveRoads" 54 "DroveRoads" "herdCount" "I" ∈ gw_tbl := gw_at 256 (by decide +kernel) (by decide +kernel)
theorem mw_257 : Cond.fieldLink "DroveRoads" 58 "DroveRoads" "tapeBytes" "I" ∈ gw_tbl := gw_at 257 (by decide +kernel) (by decide +kernel)
theorem mw_258 : Cond.fieldLink "DroveRoads" 61 "DroveRoads" "latestFault" "I" ∈ gw_tbl := gw_at 258 (by decide +kernel) (by decide +kernel)
theorem mw_259 : Cond.fieldLink "DroveRoads" 64 "DroveRoads" "latestFaultPlace" "I" ∈ gw_tbl := gw_at 259 (by decide +kernel) (by decide +kernel)
theorem mw_260 : Cond.fieldLink "DroveRoads" 67 "DroveRoads" "today" "I" ∈ gw_tbl := gw_at 260 (by decide +kernel) (by decide +kernel)
theorem mw_286 : Cond.methodLink "DroveRoadsLaw" 13 ⟨"DroveRoads", "stance", "(I)I"⟩ ∈ gw_tbl := gw_at 286 (by decide +kernel) (by decide +kernel)
theorem mw_287 : Cond.instanceMethod ⟨"DroveRoads", "stance", "(I)I"⟩ ∈ gw_tbl := gw_at 287 (by decide +kernel) (by decide +kernel)
theorem mw_288 : Cond.selects "DroveRoads" ⟨"DroveRoads", "stance", "(I)I"⟩ ⟨"DroveRoads", "stance", "(I)I"⟩ ∈ gw_tbl := gw_at 288 (by decide +kernel) (by decide +kernel)
theorem mw_289 : Cond.code ⟨"DroveRoads", "stance", "(I)I"⟩ prog_1_method_2_code 2 (some .int) ∈ gw_tbl := gw_at 289 (by decide +kernel) (by decide +kernel)
theorem mw_290 : Cond.methodLink "DroveRoads" 70 ⟨"DroveRoads$Road", "canBeMiles", "(I)Z"⟩ ∈ gw_tbl := gw_at 290 (by decide +kernel) (by decide +kernel)
theorem mw_291 : Cond.static ⟨"DroveRoads$Road", "canBeMiles", "(I)Z"⟩ ∈ gw_tbl := gw_at 291 (by decide +kernel) (by decide +kernel)
theorem mw_292 : Cond.code ⟨"DroveRoads$Road", "canBeMiles", "(I)Z"⟩ prog_11_method_2_code 1 (some .boolean) ∈ gw_tbl := gw_at 292 (by decide +kernel) (by decide +kernel)
theorem mw_294 : Cond.static ⟨"DroveRoads", "within", "(III)Z"⟩ ∈ gw_tbl := gw_at 294 (by decide +kernel) (by decide +kernel)
theorem mw_295 : Cond.code ⟨"DroveRoads", "within", "(III)Z"⟩ prog_1_method_25_code 3 (some .boolean) ∈ gw_tbl := gw_at 295 (by decide +kernel) (by decide +kernel)
theorem mw_296 : Cond.methodLink "DroveRoads" 74 ⟨"DroveRoads$Road", "lengthen", "(I)I"⟩ ∈ gw_tbl := gw_at 296 (by decide +kernel) (by decide +kernel)
theorem mw_297 : Cond.instanceMethod ⟨"DroveRoads$Road", "lengthen", "(I)I"⟩ ∈ gw_tbl := gw_at 297 (by decide +kernel) (by decide +kernel)
theorem mw_298 : Cond.selects "DroveRoads$Road" ⟨"DroveRoads$Road", "lengthen", "(I)I"⟩ ⟨"DroveRoads$Road", "lengthen", "(I)I"⟩ ∈ gw_tbl := gw_at 298 (by decide +kernel) (by decide +kernel)
theorem mw_299 : Cond.code ⟨"DroveRoads$Road", "lengthen", "(I)I"⟩ prog_11_method_5_code 2 (some .int) ∈ gw_tbl := gw_at 299 (by decide +kernel) (by decide +kernel)
theorem mw_300 : Cond.methodLink "DroveRoads$Road" 38 ⟨"DroveRoads$Road", "measure", "()V"⟩ ∈ gw_tbl := gw_at 300 (by decide +kernel) (by decide +kernel)
theorem mw_302 : Cond.instanceMethod ⟨"DroveRoads$Road", "measure", "()V"⟩ ∈ gw_tbl := gw_at 302 (by decide +kernel) (by decide +kernel)
theorem mw_303 : Cond.code ⟨"DroveRoads$Road", "measure", "()V"⟩ prog_11_method_7_code 3 none ∈ gw_tbl := gw_at 303 (by decide +kernel) (by decide +kernel)
theorem mw_304 : Cond.methodLink "DroveRoads$Road" 41 ⟨"DroveRoads$Road", "fair", "()I"⟩ ∈ gw_tbl := gw_at 304 (by decide +kernel) (by decide +kernel)
theorem mw_305 : Cond.instanceMethod ⟨"DroveRoads$Road", "fair", "()I"⟩ ∈ gw_tbl := gw_at 305 (by decide +kernel) (by decide +kernel)
theorem mw_306 : Cond.selects "DroveRoads$Road" ⟨"DroveRoads$Road", "fair", "()I"⟩ ⟨"DroveRoads$Road", "fair", "()I"⟩ ∈ gw_tbl := gw_at 306 (by decide +kernel) (by decide +kernel)
theorem mw_307 : Cond.code ⟨"DroveRoads$Road", "fair", "()I"⟩ prog_11_method_4_code 1 (some .int) ∈ gw_tbl := gw_at 307 (by decide +kernel) (by decide +kernel)
theorem mw_308 : Cond.methodLink "DroveRoadsLaw" 18 ⟨"DroveRoads", "first", "(I)Z"⟩ ∈ gw_tbl := gw_at 308 (by decide +kernel) (by decide +kernel)
theorem mw_309 : Cond.instanceMethod ⟨"DroveRoads", "first", "(I)Z"⟩ ∈ gw_tbl := gw_at 309 (by decide +kernel) (by decide +kernel)
theorem mw_310 : Cond.selects "DroveRoads" ⟨"DroveRoads", "first", "(I)Z"⟩ ⟨"DroveRoads", "first", "(I)Z"⟩ ∈ gw_tbl := gw_at 310 (by decide +kernel) (by decide +kernel)
theorem mw_311 : Cond.code ⟨"DroveRoads", "first", "(I)Z"⟩ prog_1_method_3_code 2 (some .boolean) ∈ gw_tbl := gw_at 311 (by decide +kernel) (by decide +kernel)
theorem mw_312 : Cond.methodLink "DroveRoads" 78 ⟨"DroveRoads$Road", "setFirstMiles", "(I)V"⟩ ∈ gw_tbl := gw_at 312 (by decide +kernel) (by decide +kernel)
theorem mw_313 : Cond.instanceMethod ⟨"DroveRoads$Road", "setFirstMiles", "(I)V"⟩ ∈ gw_tbl := gw_at 313 (by decide +kernel) (by decide +kernel)
theorem mw_314 : Cond.selects "DroveRoads$Road" ⟨"DroveRoads$Road", "setFirstMiles", "(I)V"⟩ ⟨"DroveRoads$Road", "setFirstMiles", "(I)V"⟩ ∈ gw_tbl := gw_at 314 (by decide +kernel) (by decide +kernel)
theorem mw_315 : Cond.code ⟨"DroveRoads$Road", "setFirstMiles", "(I)V"⟩ prog_11_method_6_code 2 none ∈ gw_tbl := gw_at 315 (by decide +kernel) (by decide +kernel)
theorem mw_316 : Cond.methodLink "DroveRoadsLaw" 23 ⟨"DroveRoads", "grass", "(IIII)Z"⟩ ∈ gw_tbl := gw_at 316 (by decide +kernel) (by decide +kernel)
theorem mw_317 : Cond.instanceMethod ⟨"DroveRoads", "grass", "(IIII)Z"⟩ ∈ gw_tbl := gw_at 317 (by decide +kernel) (by decide +kernel)
theorem mw_318 : Cond.selects "DroveRoads" ⟨"DroveRoads", "grass", "(IIII)Z"⟩ ⟨"DroveRoads", "grass", "(IIII)Z"⟩ ∈ gw_tbl := gw_at 318 (by decide +kernel) (by decide +kernel)
theorem mw_319 : Cond.code ⟨"DroveRoads", "grass", "(IIII)Z"⟩ prog_1_method_4_code 5 (some .boolean) ∈ gw_tbl := gw_at 319 (by decide +kernel) (by decide +kernel)
theorem mw_320 : Cond.methodLink "DroveRoads" 82 ⟨"DroveRoads$Road", "sow", "(IIII)Z"⟩ ∈ gw_tbl := gw_at 320 (by decide +kernel) (by decide +kernel)
theorem mw_321 : Cond.instanceMethod ⟨"DroveRoads$Road", "sow", "(IIII)Z"⟩ ∈ gw_tbl := gw_at 321 (by decide +kernel) (by decide +kernel)
theorem mw_322 : Cond.selects "DroveRoads$Road" ⟨"DroveRoads$Road", "sow", "(IIII)Z"⟩ ⟨"DroveRoads$Road", "sow", "(IIII)Z"⟩ ∈ gw_tbl := gw_at 322 (by decide +kernel) (by decide +kernel)
theorem mw_323 : Cond.code ⟨"DroveRoads$Road", "sow", "(IIII)Z"⟩ prog_11_method_11_code 6 (some .boolean) ∈ gw_tbl := gw_at 323 (by decide +kernel) (by decide +kernel)
theorem mw_324 : Cond.constant "DroveRoads$Road" 49 (100000) ∈ gw_tbl := gw_at 324 (by decide +kernel) (by decide +kernel)
theorem mw_325 : Cond.methodLink "DroveRoads$Road" 45 ⟨"DroveRoads$Road", "has", "(I)Z"⟩ ∈ gw_tbl := gw_at 325 (by decide +kernel) (by decide +kernel)
theorem mw_326 : Cond.instanceMethod ⟨"DroveRoads$Road", "has", "(I)Z"⟩ ∈ gw_tbl := gw_at 326 (by decide +kernel) (by decide +kernel)
theorem mw_327 : Cond.selects "DroveRoads$Road" ⟨"DroveRoads$Road", "has", "(I)Z"⟩ ⟨"DroveRoads$Road", "has", "(I)Z"⟩ ∈ gw_tbl := gw_at 327 (by decide +kernel) (by decide +kernel)
theorem mw_328 : Cond.code ⟨"DroveRoads$Road", "has", "(I)Z"⟩ prog_11_method_3_code 2 (some .boolean) ∈ gw_tbl := gw_at 328 (by decide +kernel) (by decide +kernel)
theorem mw_329 : Cond.methodLink "DroveRoadsLaw" 28 ⟨"DroveRoads", "herd", "(IIII)I"⟩ ∈ gw_tbl := gw_at 329 (by decide +kernel) (by decide +kernel)
theorem mw_330 : Cond.instanceMethod ⟨"DroveRoads", "herd", "(IIII)I"⟩ ∈ gw_tbl := gw_at 330 (by decide +kernel) (by decide +kernel)
theorem mw_331 : Cond.selects "DroveRoads" ⟨"DroveRoads", "herd", "(IIII)I"⟩ ⟨"DroveRoads", "herd", "(IIII)I"⟩ ∈ gw_tbl := gw_at 331 (by decide +kernel) (by decide +kernel)
theorem mw_332 : Cond.code ⟨"DroveRoads", "herd", "(IIII)I"⟩ prog_1_method_5_code 6 (some .int) ∈ gw_tbl := gw_at 332 (by decide +kernel) (by decide +kernel)
theorem mw_333 : Cond.methodLink "DroveRoads" 86 ⟨"DroveRoads", "within", "(III)Z"⟩ ∈ gw_tbl := gw_at 333 (by decide +kernel) (by decide +kernel)
theorem mw_334 : Cond.instantiable "DroveRoads$Herd" 12 ∈ gw_tbl := gw_at 334 (by decide +kernel) (by decide +kernel)
theorem mw_335 : Cond.methodLink "DroveRoads" 90 ⟨"DroveRoads$Herd", "<init>", "(IIII)V"⟩ ∈ gw_tbl := gw_at 335 (by decide +kernel) (by decide +kernel)
theorem mw_336 : Cond.instanceMethod ⟨"DroveRoads$Herd", "<init>", "(IIII)V"⟩ ∈ gw_tbl := gw_at 336 (by decide +kernel) (by decide +kernel)
theorem mw_337 : Cond.code ⟨"DroveRoads$Herd", "<init>", "(IIII)V"⟩ prog_3_method_1_code 5 none ∈ gw_tbl := gw_at 337 (by decide +kernel) (by decide +kernel)
theorem mw_338 : Cond.methodLink "DroveRoads$Herd" 3 ⟨"java/lang/Object", "<init>", "()V"⟩ ∈ gw_tbl := gw_at 338 (by decide +kernel) (by decide +kernel)
theorem mw_339 : Cond.classLink "DroveRoads$Herd" 18 "DroveRoads$Orders" ∈ gw_tbl := gw_at 339 (by decide +kernel) (by decide +kernel)
theorem mw_341 : Cond.fieldLink "DroveRoads$Herd" 46 "DroveRoads$Herd" "need" "I" ∈ gw_tbl := gw_at 341 (by decide +kernel) (by decide +kernel)
theorem mw_342 : Cond.fieldLink "DroveRoads$Herd" 49 "DroveRoads$Herd" "start" "I" ∈ gw_tbl := gw_at 342 (by decide +kernel) (by decide +kernel)
theorem mw_343 : Cond.fieldLink "DroveRoads" 215 "DroveRoads$Herd" "start" "I" ∈ gw_tbl := gw_at 343 (by decide +kernel) (by decide +kernel)
theorem mw_344 : Cond.fieldLink "DroveRoads$Herd" 40 "DroveRoads$Herd" "heads" "I" ∈ gw_tbl := gw_at 344 (by decide +kernel) (by decide +kernel)
theorem mw_345 : Cond.fieldLink "DroveRoads$Reckoner" 26 "DroveRoads$Herd" "heads" "I" ∈ gw_tbl := gw_at 345 (by decide +kernel) (by decide +kernel)
theorem mw_346 : Cond.fieldLink "DroveRoads" 197 "DroveRoads$Herd" "heads" "I" ∈ gw_tbl := gw_at 346 (by decide +kernel) (by decide +kernel)
theorem mw_347 : Cond.fieldLink "DroveRoads$Herd" 43 "DroveRoads$Herd" "weight" "I" ∈ gw_tbl := gw_at 347 (by decide +kernel) (by decide +kernel)
theorem mw_348 : Cond.fieldLink "DroveRoads$Reckoner" 31 "DroveRoads$Herd" "weight" "I" ∈ gw_tbl := gw_at 348 (by decide +kernel) (by decide +kernel)
theorem mw_349 : Cond.fieldLink "DroveRoads$Herd" 9 "DroveRoads$Herd" "sore" "I" ∈ gw_tbl := gw_at 349 (by decide +kernel) (by decide +kernel)
theorem mw_350 : Cond.fieldLink "DroveRoads$Reckoner" 34 "DroveRoads$Herd" "sore" "I" ∈ gw_tbl := gw_at 350 (by decide +kernel) (by decide +kernel)
theorem mw_351 : Cond.fieldLink "DroveRoads" 203 "DroveRoads$Herd" "sore" "I" ∈ gw_tbl := gw_at 351 (by decide +kernel) (by decide +kernel)
theorem mw_352 : Cond.fieldLink "DroveRoads$Herd" 15 "DroveRoads$Herd" "stance" "I" ∈ gw_tbl := gw_at 352 (by decide +kernel) (by decide +kernel)
theorem mw_353 : Cond.fieldLink "DroveRoads$Reckoner" 37 "DroveRoads$Herd" "stance" "I" ∈ gw_tbl := gw_at 353 (by decide +kernel) (by decide +kernel)
theorem mw_354 : Cond.fieldLink "DroveRoads" 200 "DroveRoads$Herd" "stance" "I" ∈ gw_tbl := gw_at 354 (by decide +kernel) (by decide +kernel)
theorem mw_355 : Cond.fieldLink "DroveRoads$Herd" 21 "DroveRoads$Herd" "orders" "LDroveRoads$Orders;" ∈ gw_tbl := gw_at 355 (by decide +kernel) (by decide +kernel)
theorem mw_356 : Cond.fieldLink "DroveRoads" 125 "DroveRoads$Herd" "orders" "LDroveRoads$Orders;" ∈ gw_tbl := gw_at 356 (by decide +kernel) (by decide +kernel)
theorem mw_357 : Cond.fieldLink "DroveRoads$Herd" 25 "DroveRoads$Herd" "coins" "I" ∈ gw_tbl := gw_at 357 (by decide +kernel) (by decide +kernel)
theorem mw_358 : Cond.fieldLink "DroveRoads$Herd" 28 "DroveRoads$Herd" "left" "I" ∈ gw_tbl := gw_at 358 (by decide +kernel) (by decide +kernel)
theorem mw_359 : Cond.fieldLink "DroveRoads$Herd" 31 "DroveRoads$Herd" "sold" "I" ∈ gw_tbl := gw_at 359 (by decide +kernel) (by decide +kernel)
theorem mw_360 : Cond.fieldLink "DroveRoads$Herd" 34 "DroveRoads$Herd" "dead" "I" ∈ gw_tbl := gw_at 360 (by decide +kernel) (by decide +kernel)
theorem mw_361 : Cond.fieldLink "DroveRoads$Herd" 37 "DroveRoads$Herd" "ate" "I" ∈ gw_tbl := gw_at 361 (by decide +kernel) (by decide +kernel)
theorem mw_387 : Cond.methodLink "DroveRoadsLaw" 33 ⟨"DroveRoads", "letter", "(I)I"⟩ ∈ gw_tbl := gw_at 387 (by decide +kernel) (by decide +kernel)
theorem mw_388 : Cond.instanceMethod ⟨"DroveRoads", "letter", "(I)I"⟩ ∈ gw_tbl := gw_at 388 (by decide +kernel) (by decide +kernel)
theorem mw_389 : Cond.selects "DroveRoads" ⟨"DroveRoads", "letter", "(I)I"⟩ ⟨"DroveRoads", "letter", "(I)I"⟩ ∈ gw_tbl := gw_at 389 (by decide +kernel) (by decide +kernel)
theorem mw_390 : Cond.code ⟨"DroveRoads", "letter", "(I)I"⟩ prog_1_method_6_code 2 (some .int) ∈ gw_tbl := gw_at 390 (by decide +kernel) (by decide +kernel)
theorem mw_391 : Cond.methodLink "DroveRoads" 93 ⟨"DroveRoads$Letters", "send", "(II)I"⟩ ∈ gw_tbl := gw_at 391 (by decide +kernel) (by decide +kernel)
theorem mw_392 : Cond.instanceMethod ⟨"DroveRoads$Letters", "send", "(II)I"⟩ ∈ gw_tbl := gw_at 392 (by decide +kernel) (by decide +kernel)
theorem mw_393 : Cond.selects "DroveRoads$Letters" ⟨"DroveRoads$Letters", "send", "(II)I"⟩ ⟨"DroveRoads$Letters", "send", "(II)I"⟩ ∈ gw_tbl := gw_at 393 (by decide +kernel) (by decide +kernel)
theorem mw_394 : Cond.code ⟨"DroveRoads$Letters", "send", "(II)I"⟩ prog_4_method_2_code 3 (some .int) ∈ gw_tbl := gw_at 394 (by decide +kernel) (by decide +kernel)
theorem mw_396 : Cond.methodLink "DroveRoadsLaw" 37 ⟨"DroveRoads", "known", "(I)I"⟩ ∈ gw_tbl := gw_at 396 (by decide +kernel) (by decide +kernel)
theorem mw_397 : Cond.instanceMethod ⟨"DroveRoads", "known", "(I)I"⟩ ∈ gw_tbl := gw_at 397 (by decide +kernel) (by decide +kernel)
theorem mw_398 : Cond.selects "DroveRoads" ⟨"DroveRoads", "known", "(I)I"⟩ ⟨"DroveRoads", "known", "(I)I"⟩ ∈ gw_tbl := gw_at 398 (by decide +kernel) (by decide +kernel)
theorem mw_399 : Cond.code ⟨"DroveRoads", "known", "(I)I"⟩ prog_1_method_7_code 2 (some .int) ∈ gw_tbl := gw_at 399 (by decide +kernel) (by decide +kernel)
theorem mw_400 : Cond.methodLink "DroveRoads" 97 ⟨"DroveRoads$Road", "has", "(I)Z"⟩ ∈ gw_tbl := gw_at 400 (by decide +kernel) (by decide +kernel)
theorem mw_401 : Cond.methodLink "DroveRoads" 100 ⟨"DroveRoads", "priceKnownAt", "(I)I"⟩ ∈ gw_tbl := gw_at 401 (by decide +kernel) (by decide +kernel)
theorem mw_403 : Cond.instanceMethod ⟨"DroveRoads", "priceKnownAt", "(I)I"⟩ ∈ gw_tbl := gw_at 403 (by decide +kernel) (by decide +kernel)
theorem mw_404 : Cond.code ⟨"DroveRoads", "priceKnownAt", "(I)I"⟩ prog_1_method_27_code 2 (some .int) ∈ gw_tbl := gw_at 404 (by decide +kernel) (by decide +kernel)
theorem mw_405 : Cond.methodLink "DroveRoads" 191 ⟨"DroveRoads$Road", "milesToFair", "(I)I"⟩ ∈ gw_tbl := gw_at 405 (by decide +kernel) (by decide +kernel)
theorem mw_406 : Cond.instanceMethod ⟨"DroveRoads$Road", "milesToFair", "(I)I"⟩ ∈ gw_tbl := gw_at 406 (by decide +kernel) (by decide +kernel)
theorem mw_407 : Cond.selects "DroveRoads$Road" ⟨"DroveRoads$Road", "milesToFair", "(I)I"⟩ ⟨"DroveRoads$Road", "milesToFair", "(I)I"⟩ ∈ gw_tbl := gw_at 407 (by decide +kernel) (by decide +kernel)
theorem mw_408 : Cond.code ⟨"DroveRoads$Road", "milesToFair", "(I)I"⟩ prog_11_method_9_code 2 (some .int) ∈ gw_tbl := gw_at 408 (by decide +kernel) (by decide +kernel)
theorem mw_409 : Cond.methodLink "DroveRoads" 194 ⟨"DroveRoads$Letters", "priceKnown", "(II)I"⟩ ∈ gw_tbl := gw_at 409 (by decide +kernel) (by decide +kernel)
theorem mw_410 : Cond.instanceMethod ⟨"DroveRoads$Letters", "priceKnown", "(II)I"⟩ ∈ gw_tbl := gw_at 410 (by decide +kernel) (by decide +kernel)
theorem mw_411 : Cond.selects "DroveRoads$Letters" ⟨"DroveRoads$Letters", "priceKnown", "(II)I"⟩ ⟨"DroveRoads$Letters", "priceKnown", "(II)I"⟩ ∈ gw_tbl := gw_at 411 (by decide +kernel) (by decide +kernel)
theorem mw_412 : Cond.code ⟨"DroveRoads$Letters", "priceKnown", "(II)I"⟩ prog_4_method_3_code 5 (some .int) ∈ gw_tbl := gw_at 412 (by decide +kernel) (by decide +kernel)
theorem mw_413 : Cond.methodLink "DroveRoadsLaw" 41 ⟨"DroveRoads", "feed", "(IIIII)I"⟩ ∈ gw_tbl := gw_at 413 (by decide +kernel) (by decide +kernel)
theorem mw_414 : Cond.instanceMethod ⟨"DroveRoads", "feed", "(IIIII)I"⟩ ∈ gw_tbl := gw_at 414 (by decide +kernel) (by decide +kernel)
theorem mw_415 : Cond.selects "DroveRoads" ⟨"DroveRoads", "feed", "(IIIII)I"⟩ ⟨"DroveRoads", "feed", "(IIIII)I"⟩ ∈ gw_tbl := gw_at 415 (by decide +kernel) (by decide +kernel)
theorem mw_416 : Cond.code ⟨"DroveRoads", "feed", "(IIIII)I"⟩ prog_1_method_8_code 6 (some .int) ∈ gw_tbl := gw_at 416 (by decide +kernel) (by decide +kernel)
theorem mw_417 : Cond.methodLink "DroveRoads" 103 ⟨"DroveRoads", "feedFour", "(I)V"⟩ ∈ gw_tbl := gw_at 417 (by decide +kernel) (by decide +kernel)
theorem mw_419 : Cond.instanceMethod ⟨"DroveRoads", "feedFour", "(I)V"⟩ ∈ gw_tbl := gw_at 419 (by decide +kernel) (by decide +kernel)
theorem mw_420 : Cond.code ⟨"DroveRoads", "feedFour", "(I)V"⟩ prog_1_method_28_code 3 none ∈ gw_tbl := gw_at 420 (by decide +kernel) (by decide +kernel)
theorem mw_421 : Cond.methodLink "DroveRoadsLaw" 46 ⟨"DroveRoads", "end", "(I)I"⟩ ∈ gw_tbl := gw_at 421 (by decide +kernel) (by decide +kernel)
theorem mw_422 : Cond.instanceMethod ⟨"DroveRoads", "end", "(I)I"⟩ ∈ gw_tbl := gw_at 422 (by decide +kernel) (by decide +kernel)
theorem mw_423 : Cond.selects "DroveRoads" ⟨"DroveRoads", "end", "(I)I"⟩ ⟨"DroveRoads", "end", "(I)I"⟩ ∈ gw_tbl := gw_at 423 (by decide +kernel) (by decide +kernel)
theorem mw_424 : Cond.code ⟨"DroveRoads", "end", "(I)I"⟩ prog_1_method_9_code 2 (some .int) ∈ gw_tbl := gw_at 424 (by decide +kernel) (by decide +kernel)
theorem mw_425 : Cond.methodLink "DroveRoadsLaw" 50 ⟨"DroveRoads", "orders", "(I)I"⟩ ∈ gw_tbl := gw_at 425 (by decide +kernel) (by decide +kernel)
theorem mw_426 : Cond.instanceMethod ⟨"DroveRoads", "orders", "(I)I"⟩ ∈ gw_tbl := gw_at 426 (by decide +kernel) (by decide +kernel)
theorem mw_427 : Cond.selects "DroveRoads" ⟨"DroveRoads", "orders", "(I)I"⟩ ⟨"DroveRoads", "orders", "(I)I"⟩ ∈ gw_tbl := gw_at 427 (by decide +kernel) (by decide +kernel)
theorem mw_428 : Cond.code ⟨"DroveRoads", "orders", "(I)I"⟩ prog_1_method_10_code 6 (some .int) ∈ gw_tbl := gw_at 428 (by decide +kernel) (by decide +kernel)
theorem mw_429 : Cond.methodLink "DroveRoads" 106 ⟨"DroveRoads", "findHerd", "(I)LDroveRoads$Herd;"⟩ ∈ gw_tbl := gw_at 429 (by decide +kernel) (by decide +kernel)
theorem mw_431 : Cond.instanceMethod ⟨"DroveRoads", "findHerd", "(I)LDroveRoads$Herd;"⟩ ∈ gw_tbl := gw_at 431 (by decide +kernel) (by decide +kernel)
theorem mw_432 : Cond.code ⟨"DroveRoads", "findHerd", "(I)LDroveRoads$Herd;"⟩ prog_1_method_26_code 2 (some (.object "DroveRoads$Herd")) ∈ gw_tbl := gw_at 432 (by decide +kernel) (by decide +kernel)
theorem mw_433 : Cond.classLink "DroveRoads" 110 "DroveRoads$Parser" ∈ gw_tbl := gw_at 433 (by decide +kernel) (by decide +kernel)
theorem mw_434 : Cond.instantiable "DroveRoads$Parser" 5 ∈ gw_tbl := gw_at 434 (by decide +kernel) (by decide +kernel)
theorem mw_435 : Cond.methodLink "DroveRoads" 112 ⟨"DroveRoads$Parser", "<init>", "([BILDroveRoads$Orders;)V"⟩ ∈ gw_tbl := gw_at 435 (by decide +kernel) (by decide +kernel)
theorem mw_436 : Cond.instanceMethod ⟨"DroveRoads$Parser", "<init>", "([BILDroveRoads$Orders;)V"⟩ ∈ gw_tbl := gw_at 436 (by decide +kernel) (by decide +kernel)
theorem mw_437 : Cond.code ⟨"DroveRoads$Parser", "<init>", "([BILDroveRoads$Orders;)V"⟩ prog_8_method_1_code 4 none ∈ gw_tbl := gw_at 437 (by decide +kernel) (by decide +kernel)
theorem mw_438 : Cond.methodLink "DroveRoads$Parser" 3 ⟨"java/lang/Object", "<init>", "()V"⟩ ∈ gw_tbl := gw_at 438 (by decide +kernel) (by decide +kernel)
theorem mw_439 : Cond.classLink "DroveRoads$Parser" 21 "DroveRoads$Lexer" ∈ gw_tbl := gw_at 439 (by decide +kernel) (by decide +kernel)
theorem mw_440 : Cond.instantiable "DroveRoads$Lexer" 6 ∈ gw_tbl := gw_at 440 (by decide +kernel) (by decide +kernel)
theorem mw_441 : Cond.methodLink "DroveRoads$Parser" 23 ⟨"DroveRoads$Lexer", "<init>", "([BI)V"⟩ ∈ gw_tbl := gw_at 441 (by decide +kernel) (by decide +kernel)
theorem mw_442 : Cond.instanceMethod ⟨"DroveRoads$Lexer", "<init>", "([BI)V"⟩ ∈ gw_tbl := gw_at 442 (by decide +kernel) (by decide +kernel)
theorem mw_443 : Cond.code ⟨"DroveRoads$Lexer", "<init>", "([BI)V"⟩ prog_5_method_1_code 3 none ∈ gw_tbl := gw_at 443 (by decide +kernel) (by decide +kernel)
theorem mw_444 : Cond.methodLink "DroveRoads$Lexer" 1 ⟨"java/lang/Object", "<init>", "()V"⟩ ∈ gw_tbl := gw_at 444 (by decide +kernel) (by decide +kernel)
theorem mw_445 : Cond.methodLink "DroveRoads$Lexer" 26 ⟨"java/lang/Math", "min", "(II)I"⟩ ∈ gw_tbl := gw_at 445 (by decide +kernel) (by decide +kernel)
theorem mw_446 : Cond.static ⟨"java/lang/Math", "min", "(II)I"⟩ ∈ gw_tbl := gw_at 446 (by decide +kernel) (by decide +kernel)
theorem mw_447 : Cond.code ⟨"java/lang/Math", "min", "(II)I"⟩ prog_15_method_69_code 2 (some .int) ∈ gw_tbl := gw_at 447 (by decide +kernel) (by decide +kernel)
theorem mw_448 : Cond.fieldLink "DroveRoads$Lexer" 9 "DroveRoads$Lexer" "token" "I" ∈ gw_tbl := gw_at 448 (by decide +kernel) (by decide +kernel)
theorem mw_449 : Cond.fieldLink "DroveRoads$Parser" 42 "DroveRoads$Lexer" "token" "I" ∈ gw_tbl := gw_at 449 (by decide +kernel) (by decide +kernel)
theorem mw_450 : Cond.fieldLink "DroveRoads$Lexer" 13 "DroveRoads$Lexer" "place" "I" ∈ gw_tbl := gw_at 450 (by decide +kernel) (by decide +kernel)
theorem mw_451 : Cond.fieldLink "DroveRoads$Parser" 100 "DroveRoads$Lexer" "place" "I" ∈ gw_tbl := gw_at 451 (by decide +kernel) (by decide +kernel)
theorem mw_452 : Cond.fieldLink "DroveRoads$Lexer" 16 "DroveRoads$Lexer" "number" "I" ∈ gw_tbl := gw_at 452 (by decide +kernel) (by decide +kernel)
theorem mw_453 : Cond.fieldLink "DroveRoads$Parser" 65 "DroveRoads$Lexer" "number" "I" ∈ gw_tbl := gw_at 453 (by decide +kernel) (by decide +kernel)
theorem mw_454 : Cond.fieldLink "DroveRoads$Lexer" 22 "DroveRoads$Lexer" "text" "[B" ∈ gw_tbl := gw_at 454 (by decide +kernel) (by decide +kernel)
theorem mw_455 : Cond.fieldLink "DroveRoads$Lexer" 32 "DroveRoads$Lexer" "length" "I" ∈ gw_tbl := gw_at 455 (by decide +kernel) (by decide +kernel)
theorem mw_456 : Cond.fieldLink "DroveRoads$Lexer" 19 "DroveRoads$Lexer" "next" "I" ∈ gw_tbl := gw_at 456 (by decide +kernel) (by decide +kernel)
theorem mw_470 : Cond.fieldLink "DroveRoads$Parser" 9 "DroveRoads$Parser" "fault" "I" ∈ gw_tbl := gw_at 470 (by decide +kernel) (by decide +kernel)
theorem mw_471 : Cond.fieldLink "DroveRoads" 119 "DroveRoads$Parser" "fault" "I" ∈ gw_tbl := gw_at 471 (by decide +kernel) (by decide +kernel)
theorem mw_472 : Cond.fieldLink "DroveRoads$Parser" 15 "DroveRoads$Parser" "faultPlace" "I" ∈ gw_tbl := gw_at 472 (by decide +kernel) (by decide +kernel)
theorem mw_473 : Cond.fieldLink "DroveRoads" 122 "DroveRoads$Parser" "faultPlace" "I" ∈ gw_tbl := gw_at 473 (by decide +kernel) (by decide +kernel)
theorem mw_474 : Cond.fieldLink "DroveRoads$Parser" 26 "DroveRoads$Parser" "lexer" "LDroveRoads$Lexer;" ∈ gw_tbl := gw_at 474 (by decide +kernel) (by decide +kernel)
theorem mw_475 : Cond.fieldLink "DroveRoads$Parser" 30 "DroveRoads$Parser" "written" "LDroveRoads$Orders;" ∈ gw_tbl := gw_at 475 (by decide +kernel) (by decide +kernel)
theorem mw_476 : Cond.fieldLink "DroveRoads$Parser" 18 "DroveRoads$Parser" "operands" "I" ∈ gw_tbl := gw_at 476 (by decide +kernel) (by decide +kernel)
theorem mw_488 : Cond.methodLink "DroveRoads" 115 ⟨"DroveRoads$Parser", "read", "()Z"⟩ ∈ gw_tbl := gw_at 488 (by decide +kernel) (by decide +kernel)
theorem mw_489 : Cond.instanceMethod ⟨"DroveRoads$Parser", "read", "()Z"⟩ ∈ gw_tbl := gw_at 489 (by decide +kernel) (by decide +kernel)
theorem mw_490 : Cond.selects "DroveRoads$Parser" ⟨"DroveRoads$Parser", "read", "()Z"⟩ ⟨"DroveRoads$Parser", "read", "()Z"⟩ ∈ gw_tbl := gw_at 490 (by decide +kernel) (by decide +kernel)
theorem mw_491 : Cond.code ⟨"DroveRoads$Parser", "read", "()Z"⟩ prog_8_method_2_code 2 (some .boolean) ∈ gw_tbl := gw_at 491 (by decide +kernel) (by decide +kernel)
theorem mw_492 : Cond.methodLink "DroveRoads$Parser" 34 ⟨"DroveRoads$Orders", "clear", "()V"⟩ ∈ gw_tbl := gw_at 492 (by decide +kernel) (by decide +kernel)
theorem mw_493 : Cond.instanceMethod ⟨"DroveRoads$Orders", "clear", "()V"⟩ ∈ gw_tbl := gw_at 493 (by decide +kernel) (by decide +kernel)
theorem mw_494 : Cond.selects "DroveRoads$Orders" ⟨"DroveRoads$Orders", "clear", "()V"⟩ ⟨"DroveRoads$Orders", "clear", "()V"⟩ ∈ gw_tbl := gw_at 494 (by decide +kernel) (by decide +kernel)
theorem mw_495 : Cond.code ⟨"DroveRoads$Orders", "clear", "()V"⟩ prog_7_method_2_code 1 none ∈ gw_tbl := gw_at 495 (by decide +kernel) (by decide +kernel)
theorem mw_496 : Cond.methodLink "DroveRoads$Parser" 39 ⟨"DroveRoads$Lexer", "advance", "()V"⟩ ∈ gw_tbl := gw_at 496 (by decide +kernel) (by decide +kernel)
theorem mw_497 : Cond.instanceMethod ⟨"DroveRoads$Lexer", "advance", "()V"⟩ ∈ gw_tbl := gw_at 497 (by decide +kernel) (by decide +kernel)
theorem mw_498 : Cond.selects "DroveRoads$Lexer" ⟨"DroveRoads$Lexer", "advance", "()V"⟩ ⟨"DroveRoads$Lexer", "advance", "()V"⟩ ∈ gw_tbl := gw_at 498 (by decide +kernel) (by decide +kernel)
theorem mw_499 : Cond.code ⟨"DroveRoads$Lexer", "advance", "()V"⟩ prog_5_method_2_code 2 none ∈ gw_tbl := gw_at 499 (by decide +kernel) (by decide +kernel)
theorem mw_500 : Cond.methodLink "DroveRoads$Lexer" 35 ⟨"DroveRoads$Lexer", "byteAt", "(I)I"⟩ ∈ gw_tbl := gw_at 500 (by decide +kernel) (by decide +kernel)
theorem mw_502 : Cond.instanceMethod ⟨"DroveRoads$Lexer", "byteAt", "(I)I"⟩ ∈ gw_tbl := gw_at 502 (by decide +kernel) (by decide +kernel)
theorem mw_503 : Cond.code ⟨"DroveRoads$Lexer", "byteAt", "(I)I"⟩ prog_5_method_8_code 2 (some .int) ∈ gw_tbl := gw_at 503 (by decide +kernel) (by decide +kernel)
theorem mw_504 : Cond.methodLink "DroveRoads$Lexer" 39 ⟨"DroveRoads$Lexer", "isBlank", "(I)Z"⟩ ∈ gw_tbl := gw_at 504 (by decide +kernel) (by decide +kernel)
theorem mw_505 : Cond.static ⟨"DroveRoads$Lexer", "isBlank", "(I)Z"⟩ ∈ gw_tbl := gw_at 505 (by decide +kernel) (by decide +kernel)
theorem mw_506 : Cond.code ⟨"DroveRoads$Lexer", "isBlank", "(I)Z"⟩ prog_5_method_9_code 1 (some .boolean) ∈ gw_tbl := gw_at 506 (by decide +kernel) (by decide +kernel)
theorem mw_507 : Cond.methodLink "DroveRoads$Lexer" 43 ⟨"DroveRoads$Lexer", "isLetter", "(I)Z"⟩ ∈ gw_tbl := gw_at 507 (by decide +kernel) (by decide +kernel)
theorem mw_508 : Cond.static ⟨"DroveRoads$Lexer", "isLetter", "(I)Z"⟩ ∈ gw_tbl := gw_at 508 (by decide +kernel) (by decide +kernel)
theorem mw_509 : Cond.code ⟨"DroveRoads$Lexer", "isLetter", "(I)Z"⟩ prog_5_method_10_code 1 (some .boolean) ∈ gw_tbl := gw_at 509 (by decide +kernel) (by decide +kernel)
theorem mw_510 : Cond.methodLink "DroveRoads$Lexer" 46 ⟨"DroveRoads$Lexer", "scanWord", "()V"⟩ ∈ gw_tbl := gw_at 510 (by decide +kernel) (by decide +kernel)
theorem mw_512 : Cond.instanceMethod ⟨"DroveRoads$Lexer", "scanWord", "()V"⟩ ∈ gw_tbl := gw_at 512 (by decide +kernel) (by decide +kernel)
theorem mw_513 : Cond.code ⟨"DroveRoads$Lexer", "scanWord", "()V"⟩ prog_5_method_3_code 1 none ∈ gw_tbl := gw_at 513 (by decide +kernel) (by decide +kernel)
theorem mw_514 : Cond.methodLink "DroveRoads$Lexer" 59 ⟨"DroveRoads$Lexer", "wordToken", "()I"⟩ ∈ gw_tbl := gw_at 514 (by decide +kernel) (by decide +kernel)
theorem mw_516 : Cond.instanceMethod ⟨"DroveRoads$Lexer", "wordToken", "()I"⟩ ∈ gw_tbl := gw_at 516 (by decide +kernel) (by decide +kernel)
theorem mw_517 : Cond.code ⟨"DroveRoads$Lexer", "wordToken", "()I"⟩ prog_5_method_6_code 3 (some .int) ∈ gw_tbl := gw_at 517 (by decide +kernel) (by decide +kernel)
theorem mw_519 : Cond.methodLink "DroveRoads$Lexer" 72 ⟨"java/lang/String", "length", "()I"⟩ ∈ gw_tbl := gw_at 519 (by decide +kernel) (by decide +kernel)
theorem mw_520 : Cond.instanceMethod ⟨"java/lang/String", "length", "()I"⟩ ∈ gw_tbl := gw_at 520 (by decide +kernel) (by decide +kernel)
theorem mw_521 : Cond.selects "java/lang/String" ⟨"java/lang/String", "length", "()I"⟩ ⟨"java/lang/String", "length", "()I"⟩ ∈ gw_tbl := gw_at 521 (by decide +kernel) (by decide +kernel)
theorem mw_522 : Cond.code ⟨"java/lang/String", "length", "()I"⟩ prog_16_method_54_code 1 (some .int) ∈ gw_tbl := gw_at 522 (by decide +kernel) (by decide +kernel)
theorem mw_523 : Cond.methodLink "java/lang/String" 335 ⟨"java/lang/String", "coder", "()B"⟩ ∈ gw_tbl := gw_at 523 (by decide +kernel) (by decide +kernel)
theorem mw_524 : Cond.instanceMethod ⟨"java/lang/String", "coder", "()B"⟩ ∈ gw_tbl := gw_at 524 (by decide +kernel) (by decide +kernel)
theorem mw_525 : Cond.selects "java/lang/String" ⟨"java/lang/String", "coder", "()B"⟩ ⟨"java/lang/String", "coder", "()B"⟩ ∈ gw_tbl := gw_at 525 (by decide +kernel) (by decide +kernel)
theorem mw_526 : Cond.code ⟨"java/lang/String", "coder", "()B"⟩ prog_16_method_152_code 1 (some FieldType.byte) ∈ gw_tbl := gw_at 526 (by decide +kernel) (by decide +kernel)
theorem mw_527 : Cond.fieldLink "java/lang/String" 38 "java/lang/String" "COMPACT_STRINGS" "Z" ∈ gw_tbl := gw_at 527 (by decide +kernel) (by decide +kernel)
theorem mw_529 : Cond.methodLink "DroveRoads$Lexer" 74 ⟨"DroveRoads$Lexer", "letterAt", "(I)I"⟩ ∈ gw_tbl := gw_at 529 (by decide +kernel) (by decide +kernel)
theorem mw_531 : Cond.instanceMethod ⟨"DroveRoads$Lexer", "letterAt", "(I)I"⟩ ∈ gw_tbl := gw_at 531 (by decide +kernel) (by decide +kernel)
theorem mw_532 : Cond.code ⟨"DroveRoads$Lexer", "letterAt", "(I)I"⟩ prog_5_method_7_code 3 (some .int) ∈ gw_tbl := gw_at 532 (by decide +kernel) (by decide +kernel)
theorem mw_533 : Cond.methodLink "DroveRoads$Lexer" 77 ⟨"java/lang/String", "charAt", "(I)C"⟩ ∈ gw_tbl := gw_at 533 (by decide +kernel) (by decide +kernel)
theorem mw_534 : Cond.instanceMethod ⟨"java/lang/String", "charAt", "(I)C"⟩ ∈ gw_tbl := gw_at 534 (by decide +kernel) (by decide +kernel)
theorem mw_535 : Cond.selects "java/lang/String" ⟨"java/lang/String", "charAt", "(I)C"⟩ ⟨"java/lang/String", "charAt", "(I)C"⟩ ∈ gw_tbl := gw_at 535 (by decide +kernel) (by decide +kernel)
theorem mw_536 : Cond.code ⟨"java/lang/String", "charAt", "(I)C"⟩ prog_16_method_56_code 2 (some FieldType.char) ∈ gw_tbl := gw_at 536 (by decide +kernel) (by decide +kernel)
theorem mw_537 : Cond.methodLink "java/lang/String" 492 ⟨"java/lang/String", "isLatin1", "()Z"⟩ ∈ gw_tbl := gw_at 537 (by decide +kernel) (by decide +kernel)
theorem mw_538 : Cond.instanceMethod ⟨"java/lang/String", "isLatin1", "()Z"⟩ ∈ gw_tbl := gw_at 538 (by decide +kernel) (by decide +kernel)
theorem mw_539 : Cond.selects "java/lang/String" ⟨"java/lang/String", "isLatin1", "()Z"⟩ ⟨"java/lang/String", "isLatin1", "()Z"⟩ ∈ gw_tbl := gw_at 539 (by decide +kernel) (by decide +kernel)
theorem mw_540 : Cond.code ⟨"java/lang/String", "isLatin1", "()Z"⟩ prog_16_method_154_code 1 (some .boolean) ∈ gw_tbl := gw_at 540 (by decide +kernel) (by decide +kernel)
theorem mw_541 : Cond.methodLink "java/lang/String" 495 ⟨"java/lang/StringLatin1", "charAt", "([BI)C"⟩ ∈ gw_tbl := gw_at 541 (by decide +kernel) (by decide +kernel)
theorem mw_542 : Cond.static ⟨"java/lang/StringLatin1", "charAt", "([BI)C"⟩ ∈ gw_tbl := gw_at 542 (by decide +kernel) (by decide +kernel)
theorem mw_543 : Cond.code ⟨"java/lang/StringLatin1", "charAt", "([BI)C"⟩ prog_17_method_2_code 2 (some FieldType.char) ∈ gw_tbl := gw_at 543 (by decide +kernel) (by decide +kernel)
theorem mw_544 : Cond.methodLink "java/lang/StringLatin1" 9 ⟨"java/lang/String", "checkIndex", "(II)V"⟩ ∈ gw_tbl := gw_at 544 (by decide +kernel) (by decide +kernel)
theorem mw_545 : Cond.static ⟨"java/lang/String", "checkIndex", "(II)V"⟩ ∈ gw_tbl := gw_at 545 (by decide +kernel) (by decide +kernel)
theorem mw_546 : Cond.code ⟨"java/lang/String", "checkIndex", "(II)V"⟩ prog_16_method_155_code 2 none ∈ gw_tbl := gw_at 546 (by decide +kernel) (by decide +kernel)
theorem mw_547 : Cond.fieldLink "java/lang/String" 1053 "jdk/internal/util/Preconditions" "SIOOBE_FORMATTER" "Ljava/util/function/BiFunction;" ∈ gw_tbl := gw_at 547 (by decide +kernel) (by decide +kernel)
theorem mw_549 : Cond.methodLink "java/lang/String" 1059 ⟨"jdk/internal/util/Preconditions", "checkIndex", "(IILjava/util/function/BiFunction;)I"⟩ ∈ gw_tbl := gw_at 549 (by decide +kernel) (by decide +kernel)
theorem mw_550 : Cond.static ⟨"jdk/internal/util/Preconditions", "checkIndex", "(IILjava/util/function/BiFunction;)I"⟩ ∈ gw_tbl := gw_at 550 (by decide +kernel) (by decide +kernel)
theorem mw_551 : Cond.code ⟨"jdk/internal/util/Preconditions", "checkIndex", "(IILjava/util/function/BiFunction;)I"⟩ prog_19_method_11_code 3 (some .int) ∈ gw_tbl := gw_at 551 (by decide +kernel) (by decide +kernel)
theorem mw_552 : Cond.methodLink "java/lang/String" 498 ⟨"java/lang/StringUTF16", "charAt", "([BI)C"⟩ ∈ gw_tbl := gw_at 552 (by decide +kernel) (by decide +kernel)
theorem mw_553 : Cond.static ⟨"java/lang/StringUTF16", "charAt", "([BI)C"⟩ ∈ gw_tbl := gw_at 553 (by decide +kernel) (by decide +kernel)
theorem mw_554 : Cond.code ⟨"java/lang/StringUTF16", "charAt", "([BI)C"⟩ prog_18_method_83_code 2 (some FieldType.char) ∈ gw_tbl := gw_at 554 (by decide +kernel) (by decide +kernel)
theorem mw_555 : Cond.methodLink "java/lang/StringUTF16" 67 ⟨"java/lang/StringUTF16", "checkIndex", "(I[B)V"⟩ ∈ gw_tbl := gw_at 555 (by decide +kernel) (by decide +kernel)
theorem mw_556 : Cond.static ⟨"java/lang/StringUTF16", "checkIndex", "(I[B)V"⟩ ∈ gw_tbl := gw_at 556 (by decide +kernel) (by decide +kernel)
theorem mw_557 : Cond.code ⟨"java/lang/StringUTF16", "checkIndex", "(I[B)V"⟩ prog_18_method_91_code 2 none ∈ gw_tbl := gw_at 557 (by decide +kernel) (by decide +kernel)
theorem mw_558 : Cond.methodLink "java/lang/StringUTF16" 48 ⟨"java/lang/StringUTF16", "length", "([B)I"⟩ ∈ gw_tbl := gw_at 558 (by decide +kernel) (by decide +kernel)
theorem mw_559 : Cond.static ⟨"java/lang/StringUTF16", "length", "([B)I"⟩ ∈ gw_tbl := gw_at 559 (by decide +kernel) (by decide +kernel)
theorem mw_560 : Cond.code ⟨"java/lang/StringUTF16", "length", "([B)I"⟩ prog_18_method_6_code 1 (some .int) ∈ gw_tbl := gw_at 560 (by decide +kernel) (by decide +kernel)
theorem mw_561 : Cond.methodLink "java/lang/StringUTF16" 414 ⟨"java/lang/String", "checkIndex", "(II)V"⟩ ∈ gw_tbl := gw_at 561 (by decide +kernel) (by decide +kernel)
theorem mw_562 : Cond.methodLink "java/lang/StringUTF16" 71 ⟨"java/lang/StringUTF16", "getChar", "([BI)C"⟩ ∈ gw_tbl := gw_at 562 (by decide +kernel) (by decide +kernel)
theorem mw_563 : Cond.static ⟨"java/lang/StringUTF16", "getChar", "([BI)C"⟩ ∈ gw_tbl := gw_at 563 (by decide +kernel) (by decide +kernel)
theorem mw_564 : Cond.code ⟨"java/lang/StringUTF16", "getChar", "([BI)C"⟩ prog_18_method_5_code 2 (some FieldType.char) ∈ gw_tbl := gw_at 564 (by decide +kernel) (by decide +kernel)
theorem mw_565 : Cond.fieldLink "java/lang/StringUTF16" 44 "java/lang/StringUTF16" "$assertionsDisabled" "Z" ∈ gw_tbl := gw_at 565 (by decide +kernel) (by decide +kernel)
theorem mw_567 : Cond.fieldLink "java/lang/StringUTF16" 59 "java/lang/StringUTF16" "HI_BYTE_SHIFT" "I" ∈ gw_tbl := gw_at 567 (by decide +kernel) (by decide +kernel)
theorem mw_569 : Cond.fieldLink "java/lang/StringUTF16" 63 "java/lang/StringUTF16" "LO_BYTE_SHIFT" "I" ∈ gw_tbl := gw_at 569 (by decide +kernel) (by decide +kernel)
theorem mw_571 : Cond.methodLink "DroveRoads$Lexer" 49 ⟨"DroveRoads$Lexer", "isDigit", "(I)Z"⟩ ∈ gw_tbl := gw_at 571 (by decide +kernel) (by decide +kernel)
theorem mw_572 : Cond.static ⟨"DroveRoads$Lexer", "isDigit", "(I)Z"⟩ ∈ gw_tbl := gw_at 572 (by decide +kernel) (by decide +kernel)
theorem mw_573 : Cond.code ⟨"DroveRoads$Lexer", "isDigit", "(I)Z"⟩ prog_5_method_11_code 1 (some .boolean) ∈ gw_tbl := gw_at 573 (by decide +kernel) (by decide +kernel)
theorem mw_574 : Cond.methodLink "DroveRoads$Lexer" 52 ⟨"DroveRoads$Lexer", "scanNumber", "()V"⟩ ∈ gw_tbl := gw_at 574 (by decide +kernel) (by decide +kernel)
theorem mw_576 : Cond.instanceMethod ⟨"DroveRoads$Lexer", "scanNumber", "()V"⟩ ∈ gw_tbl := gw_at 576 (by decide +kernel) (by decide +kernel)
theorem mw_577 : Cond.code ⟨"DroveRoads$Lexer", "scanNumber", "()V"⟩ prog_5_method_4_code 2 none ∈ gw_tbl := gw_at 577 (by decide +kernel) (by decide +kernel)
theorem mw_578 : Cond.methodLink "DroveRoads$Lexer" 55 ⟨"DroveRoads$Lexer", "scanSign", "(C)V"⟩ ∈ gw_tbl := gw_at 578 (by decide +kernel) (by decide +kernel)
theorem mw_580 : Cond.instanceMethod ⟨"DroveRoads$Lexer", "scanSign", "(C)V"⟩ ∈ gw_tbl := gw_at 580 (by decide +kernel) (by decide +kernel)
theorem mw_581 : Cond.code ⟨"DroveRoads$Lexer", "scanSign", "(C)V"⟩ prog_5_method_5_code 3 none ∈ gw_tbl := gw_at 581 (by decide +kernel) (by decide +kernel)
theorem mw_583 : Cond.methodLink "DroveRoads$Lexer" 65 ⟨"java/lang/String", "indexOf", "(I)I"⟩ ∈ gw_tbl := gw_at 583 (by decide +kernel) (by decide +kernel)
theorem mw_584 : Cond.instanceMethod ⟨"java/lang/String", "indexOf", "(I)I"⟩ ∈ gw_tbl := gw_at 584 (by decide +kernel) (by decide +kernel)
theorem mw_585 : Cond.selects "java/lang/String" ⟨"java/lang/String", "indexOf", "(I)I"⟩ ⟨"java/lang/String", "indexOf", "(I)I"⟩ ∈ gw_tbl := gw_at 585 (by decide +kernel) (by decide +kernel)
theorem mw_586 : Cond.code ⟨"java/lang/String", "indexOf", "(I)I"⟩ prog_16_method_79_code 2 (some .int) ∈ gw_tbl := gw_at 586 (by decide +kernel) (by decide +kernel)
theorem mw_587 : Cond.methodLink "java/lang/String" 633 ⟨"java/lang/String", "indexOf", "(II)I"⟩ ∈ gw_tbl := gw_at 587 (by decide +kernel) (by decide +kernel)
theorem mw_588 : Cond.instanceMethod ⟨"java/lang/String", "indexOf", "(II)I"⟩ ∈ gw_tbl := gw_at 588 (by decide +kernel) (by decide +kernel)
theorem mw_589 : Cond.selects "java/lang/String" ⟨"java/lang/String", "indexOf", "(II)I"⟩ ⟨"java/lang/String", "indexOf", "(II)I"⟩ ∈ gw_tbl := gw_at 589 (by decide +kernel) (by decide +kernel)
theorem mw_590 : Cond.code ⟨"java/lang/String", "indexOf", "(II)I"⟩ prog_16_method_80_code 3 (some .int) ∈ gw_tbl := gw_at 590 (by decide +kernel) (by decide +kernel)
theorem mw_591 : Cond.methodLink "java/lang/String" 505 ⟨"java/lang/String", "length", "()I"⟩ ∈ gw_tbl := gw_at 591 (by decide +kernel) (by decide +kernel)
theorem mw_592 : Cond.methodLink "java/lang/String" 637 ⟨"java/lang/StringLatin1", "indexOf", "([BIII)I"⟩ ∈ gw_tbl := gw_at 592 (by decide +kernel) (by decide +kernel)
theorem mw_593 : Cond.static ⟨"java/lang/StringLatin1", "indexOf", "([BIII)I"⟩ ∈ gw_tbl := gw_at 593 (by decide +kernel) (by decide +kernel)
theorem mw_594 : Cond.code ⟨"java/lang/StringLatin1", "indexOf", "([BIII)I"⟩ prog_17_method_22_code 4 (some .int) ∈ gw_tbl := gw_at 594 (by decide +kernel) (by decide +kernel)
theorem mw_595 : Cond.methodLink "java/lang/StringLatin1" 88 ⟨"java/lang/StringLatin1", "canEncode", "(I)Z"⟩ ∈ gw_tbl := gw_at 595 (by decide +kernel) (by decide +kernel)
theorem mw_596 : Cond.static ⟨"java/lang/StringLatin1", "canEncode", "(I)Z"⟩ ∈ gw_tbl := gw_at 596 (by decide +kernel) (by decide +kernel)
theorem mw_597 : Cond.code ⟨"java/lang/StringLatin1", "canEncode", "(I)Z"⟩ prog_17_method_4_code 1 (some .boolean) ∈ gw_tbl := gw_at 597 (by decide +kernel) (by decide +kernel)
theorem mw_598 : Cond.methodLink "java/lang/StringLatin1" 92 ⟨"java/lang/Math", "max", "(II)I"⟩ ∈ gw_tbl := gw_at 598 (by decide +kernel) (by decide +kernel)
theorem mw_599 : Cond.static ⟨"java/lang/Math", "max", "(II)I"⟩ ∈ gw_tbl := gw_at 599 (by decide +kernel) (by decide +kernel)
theorem mw_600 : Cond.code ⟨"java/lang/Math", "max", "(II)I"⟩ prog_15_method_65_code 2 (some .int) ∈ gw_tbl := gw_at 600 (by decide +kernel) (by decide +kernel)
theorem mw_601 : Cond.methodLink "java/lang/StringLatin1" 38 ⟨"java/lang/Math", "min", "(II)I"⟩ ∈ gw_tbl := gw_at 601 (by decide +kernel) (by decide +kernel)
theorem mw_602 : Cond.methodLink "java/lang/StringLatin1" 95 ⟨"java/lang/StringLatin1", "indexOfChar", "([BIII)I"⟩ ∈ gw_tbl := gw_at 602 (by decide +kernel) (by decide +kernel)
theorem mw_603 : Cond.static ⟨"java/lang/StringLatin1", "indexOfChar", "([BIII)I"⟩ ∈ gw_tbl := gw_at 603 (by decide +kernel) (by decide +kernel)
theorem mw_604 : Cond.code ⟨"java/lang/StringLatin1", "indexOfChar", "([BIII)I"⟩ prog_17_method_23_code 6 (some .int) ∈ gw_tbl := gw_at 604 (by decide +kernel) (by decide +kernel)
theorem mw_605 : Cond.methodLink "java/lang/String" 640 ⟨"java/lang/StringUTF16", "indexOf", "([BIII)I"⟩ ∈ gw_tbl := gw_at 605 (by decide +kernel) (by decide +kernel)
theorem mw_606 : Cond.static ⟨"java/lang/StringUTF16", "indexOf", "([BIII)I"⟩ ∈ gw_tbl := gw_at 606 (by decide +kernel) (by decide +kernel)
theorem mw_607 : Cond.code ⟨"java/lang/StringUTF16", "indexOf", "([BIII)I"⟩ prog_18_method_40_code 4 (some .int) ∈ gw_tbl := gw_at 607 (by decide +kernel) (by decide +kernel)
theorem mw_608 : Cond.methodLink "java/lang/StringUTF16" 224 ⟨"java/lang/Math", "max", "(II)I"⟩ ∈ gw_tbl := gw_at 608 (by decide +kernel) (by decide +kernel)
theorem mw_609 : Cond.methodLink "java/lang/StringUTF16" 183 ⟨"java/lang/Math", "min", "(II)I"⟩ ∈ gw_tbl := gw_at 609 (by decide +kernel) (by decide +kernel)
theorem mw_610 : Cond.constant "java/lang/StringUTF16" 227 (65536) ∈ gw_tbl := gw_at 610 (by decide +kernel) (by decide +kernel)
theorem mw_611 : Cond.methodLink "java/lang/StringUTF16" 228 ⟨"java/lang/StringUTF16", "indexOfChar", "([BIII)I"⟩ ∈ gw_tbl := gw_at 611 (by decide +kernel) (by decide +kernel)
theorem mw_612 : Cond.static ⟨"java/lang/StringUTF16", "indexOfChar", "([BIII)I"⟩ ∈ gw_tbl := gw_at 612 (by decide +kernel) (by decide +kernel)
theorem mw_613 : Cond.code ⟨"java/lang/StringUTF16", "indexOfChar", "([BIII)I"⟩ prog_18_method_47_code 4 (some .int) ∈ gw_tbl := gw_at 613 (by decide +kernel) (by decide +kernel)
theorem mw_614 : Cond.methodLink "java/lang/StringUTF16" 96 ⟨"java/lang/StringUTF16", "checkBoundsBeginEnd", "(II[B)V"⟩ ∈ gw_tbl := gw_at 614 (by decide +kernel) (by decide +kernel)
theorem mw_615 : Cond.static ⟨"java/lang/StringUTF16", "checkBoundsBeginEnd", "(II[B)V"⟩ ∈ gw_tbl := gw_at 615 (by decide +kernel) (by decide +kernel)
theorem mw_616 : Cond.code ⟨"java/lang/StringUTF16", "checkBoundsBeginEnd", "(II[B)V"⟩ prog_18_method_93_code 3 none ∈ gw_tbl := gw_at 616 (by decide +kernel) (by decide +kernel)
theorem mw_617 : Cond.methodLink "java/lang/StringUTF16" 241 ⟨"java/lang/String", "checkBoundsBeginEnd", "(III)V"⟩ ∈ gw_tbl := gw_at 617 (by decide +kernel) (by decide +kernel)
theorem mw_618 : Cond.static ⟨"java/lang/String", "checkBoundsBeginEnd", "(III)V"⟩ ∈ gw_tbl := gw_at 618 (by decide +kernel) (by decide +kernel)
theorem mw_619 : Cond.code ⟨"java/lang/String", "checkBoundsBeginEnd", "(III)V"⟩ prog_16_method_158_code 3 none ∈ gw_tbl := gw_at 619 (by decide +kernel) (by decide +kernel)
theorem mw_620 : Cond.methodLink "java/lang/String" 1062 ⟨"jdk/internal/util/Preconditions", "checkFromToIndex", "(IIILjava/util/function/BiFunction;)I"⟩ ∈ gw_tbl := gw_at 620 (by decide +kernel) (by decide +kernel)
theorem mw_621 : Cond.static ⟨"jdk/internal/util/Preconditions", "checkFromToIndex", "(IIILjava/util/function/BiFunction;)I"⟩ ∈ gw_tbl := gw_at 621 (by decide +kernel) (by decide +kernel)
theorem mw_622 : Cond.code ⟨"jdk/internal/util/Preconditions", "checkFromToIndex", "(IIILjava/util/function/BiFunction;)I"⟩ prog_19_method_12_code 4 (some .int) ∈ gw_tbl := gw_at 622 (by decide +kernel) (by decide +kernel)
theorem mw_623 : Cond.methodLink "java/lang/StringUTF16" 244 ⟨"java/lang/StringUTF16", "indexOfCharUnsafe", "([BIII)I"⟩ ∈ gw_tbl := gw_at 623 (by decide +kernel) (by decide +kernel)
theorem mw_624 : Cond.static ⟨"java/lang/StringUTF16", "indexOfCharUnsafe", "([BIII)I"⟩ ∈ gw_tbl := gw_at 624 (by decide +kernel) (by decide +kernel)
theorem mw_625 : Cond.code ⟨"java/lang/StringUTF16", "indexOfCharUnsafe", "([BIII)I"⟩ prog_18_method_48_code 5 (some .int) ∈ gw_tbl := gw_at 625 (by decide +kernel) (by decide +kernel)
theorem mw_626 : Cond.methodLink "java/lang/StringUTF16" 232 ⟨"java/lang/StringUTF16", "indexOfSupplementary", "([BIII)I"⟩ ∈ gw_tbl := gw_at 626 (by decide +kernel) (by decide +kernel)
theorem mw_627 : Cond.static ⟨"java/lang/StringUTF16", "indexOfSupplementary", "([BIII)I"⟩ ∈ gw_tbl := gw_at 627 (by decide +kernel) (by decide +kernel)
theorem mw_628 : Cond.code ⟨"java/lang/StringUTF16", "indexOfSupplementary", "([BIII)I"⟩ prog_18_method_49_code 7 (some .int) ∈ gw_tbl := gw_at 628 (by decide +kernel) (by decide +kernel)
theorem mw_629 : Cond.methodLink "java/lang/StringUTF16" 164 ⟨"java/lang/Character", "isValidCodePoint", "(I)Z"⟩ ∈ gw_tbl := gw_at 629 (by decide +kernel) (by decide +kernel)
theorem mw_630 : Cond.static ⟨"java/lang/Character", "isValidCodePoint", "(I)Z"⟩ ∈ gw_tbl := gw_at 630 (by decide +kernel) (by decide +kernel)
theorem mw_631 : Cond.code ⟨"java/lang/Character", "isValidCodePoint", "(I)Z"⟩ prog_14_method_11_code 2 (some .boolean) ∈ gw_tbl := gw_at 631 (by decide +kernel) (by decide +kernel)
theorem mw_632 : Cond.methodLink "java/lang/StringUTF16" 157 ⟨"java/lang/Character", "highSurrogate", "(I)C"⟩ ∈ gw_tbl := gw_at 632 (by decide +kernel) (by decide +kernel)
theorem mw_633 : Cond.static ⟨"java/lang/Character", "highSurrogate", "(I)C"⟩ ∈ gw_tbl := gw_at 633 (by decide +kernel) (by decide +kernel)
theorem mw_634 : Cond.code ⟨"java/lang/Character", "highSurrogate", "(I)C"⟩ prog_14_method_28_code 1 (some FieldType.char) ∈ gw_tbl := gw_at 634 (by decide +kernel) (by decide +kernel)
theorem mw_635 : Cond.constant "java/lang/Character" 110 (55232) ∈ gw_tbl := gw_at 635 (by decide +kernel) (by decide +kernel)
theorem mw_636 : Cond.methodLink "java/lang/StringUTF16" 161 ⟨"java/lang/Character", "lowSurrogate", "(I)C"⟩ ∈ gw_tbl := gw_at 636 (by decide +kernel) (by decide +kernel)
theorem mw_637 : Cond.static ⟨"java/lang/Character", "lowSurrogate", "(I)C"⟩ ∈ gw_tbl := gw_at 637 (by decide +kernel) (by decide +kernel)
theorem mw_638 : Cond.code ⟨"java/lang/Character", "lowSurrogate", "(I)C"⟩ prog_14_method_29_code 1 (some FieldType.char) ∈ gw_tbl := gw_at 638 (by decide +kernel) (by decide +kernel)
theorem mw_639 : Cond.constant "java/lang/Character" 76 (56320) ∈ gw_tbl := gw_at 639 (by decide +kernel) (by decide +kernel)
theorem mw_640 : Cond.methodLink "DroveRoads$Parser" 45 ⟨"DroveRoads$Parser", "readLine", "()Z"⟩ ∈ gw_tbl := gw_at 640 (by decide +kernel) (by decide +kernel)
theorem mw_642 : Cond.instanceMethod ⟨"DroveRoads$Parser", "readLine", "()Z"⟩ ∈ gw_tbl := gw_at 642 (by decide +kernel) (by decide +kernel)
theorem mw_643 : Cond.code ⟨"DroveRoads$Parser", "readLine", "()Z"⟩ prog_8_method_3_code 1 (some .boolean) ∈ gw_tbl := gw_at 643 (by decide +kernel) (by decide +kernel)
theorem mw_644 : Cond.methodLink "DroveRoads$Parser" 52 ⟨"DroveRoads$Parser", "take", "(I)Z"⟩ ∈ gw_tbl := gw_at 644 (by decide +kernel) (by decide +kernel)
theorem mw_646 : Cond.instanceMethod ⟨"DroveRoads$Parser", "take", "(I)Z"⟩ ∈ gw_tbl := gw_at 646 (by decide +kernel) (by decide +kernel)
theorem mw_647 : Cond.code ⟨"DroveRoads$Parser", "take", "(I)Z"⟩ prog_8_method_12_code 2 (some .boolean) ∈ gw_tbl := gw_at 647 (by decide +kernel) (by decide +kernel)
theorem mw_648 : Cond.methodLink "DroveRoads$Parser" 49 ⟨"DroveRoads$Parser", "refuse", "()Z"⟩ ∈ gw_tbl := gw_at 648 (by decide +kernel) (by decide +kernel)
theorem mw_650 : Cond.instanceMethod ⟨"DroveRoads$Parser", "refuse", "()Z"⟩ ∈ gw_tbl := gw_at 650 (by decide +kernel) (by decide +kernel)
theorem mw_651 : Cond.code ⟨"DroveRoads$Parser", "refuse", "()Z"⟩ prog_8_method_14_code 1 (some .boolean) ∈ gw_tbl := gw_at 651 (by decide +kernel) (by decide +kernel)
theorem mw_652 : Cond.methodLink "DroveRoads$Parser" 94 ⟨"DroveRoads$Parser", "refuseFor", "(I)Z"⟩ ∈ gw_tbl := gw_at 652 (by decide +kernel) (by decide +kernel)
theorem mw_654 : Cond.instanceMethod ⟨"DroveRoads$Parser", "refuseFor", "(I)Z"⟩ ∈ gw_tbl := gw_at 654 (by decide +kernel) (by decide +kernel)
theorem mw_655 : Cond.code ⟨"DroveRoads$Parser", "refuseFor", "(I)Z"⟩ prog_8_method_15_code 2 (some .boolean) ∈ gw_tbl := gw_at 655 (by decide +kernel) (by decide +kernel)
theorem mw_656 : Cond.methodLink "DroveRoads$Parser" 56 ⟨"DroveRoads$Parser", "readE", "(I)Z"⟩ ∈ gw_tbl := gw_at 656 (by decide +kernel) (by decide +kernel)
theorem mw_658 : Cond.instanceMethod ⟨"DroveRoads$Parser", "readE", "(I)Z"⟩ ∈ gw_tbl := gw_at 658 (by decide +kernel) (by decide +kernel)
theorem mw_659 : Cond.code ⟨"DroveRoads$Parser", "readE", "(I)Z"⟩ prog_8_method_6_code 4 (some .boolean) ∈ gw_tbl := gw_at 659 (by decide +kernel) (by decide +kernel)
theorem mw_660 : Cond.methodLink "DroveRoads$Parser" 72 ⟨"DroveRoads$Parser", "readBoth", "(I)Z"⟩ ∈ gw_tbl := gw_at 660 (by decide +kernel) (by decide +kernel)
theorem mw_662 : Cond.instanceMethod ⟨"DroveRoads$Parser", "readBoth", "(I)Z"⟩ ∈ gw_tbl := gw_at 662 (by decide +kernel) (by decide +kernel)
theorem mw_663 : Cond.code ⟨"DroveRoads$Parser", "readBoth", "(I)Z"⟩ prog_8_method_7_code 4 (some .boolean) ∈ gw_tbl := gw_at 663 (by decide +kernel) (by decide +kernel)
theorem mw_664 : Cond.methodLink "DroveRoads$Parser" 78 ⟨"DroveRoads$Parser", "readOne", "(I)Z"⟩ ∈ gw_tbl := gw_at 664 (by decide +kernel) (by decide +kernel)
theorem mw_666 : Cond.instanceMethod ⟨"DroveRoads$Parser", "readOne", "(I)Z"⟩ ∈ gw_tbl := gw_at 666 (by decide +kernel) (by decide +kernel)
theorem mw_667 : Cond.code ⟨"DroveRoads$Parser", "readOne", "(I)Z"⟩ prog_8_method_8_code 3 (some .boolean) ∈ gw_tbl := gw_at 667 (by decide +kernel) (by decide +kernel)
theorem mw_668 : Cond.methodLink "DroveRoads$Parser" 75 ⟨"DroveRoads$Parser", "write", "(I)Z"⟩ ∈ gw_tbl := gw_at 668 (by decide +kernel) (by decide +kernel)
theorem mw_670 : Cond.instanceMethod ⟨"DroveRoads$Parser", "write", "(I)Z"⟩ ∈ gw_tbl := gw_at 670 (by decide +kernel) (by decide +kernel)
theorem mw_671 : Cond.code ⟨"DroveRoads$Parser", "write", "(I)Z"⟩ prog_8_method_13_code 2 (some .boolean) ∈ gw_tbl := gw_at 671 (by decide +kernel) (by decide +kernel)
theorem mw_672 : Cond.methodLink "DroveRoads$Parser" 97 ⟨"DroveRoads$Orders", "addCell", "(I)V"⟩ ∈ gw_tbl := gw_at 672 (by decide +kernel) (by decide +kernel)
theorem mw_673 : Cond.instanceMethod ⟨"DroveRoads$Orders", "addCell", "(I)V"⟩ ∈ gw_tbl := gw_at 673 (by decide +kernel) (by decide +kernel)
theorem mw_674 : Cond.selects "DroveRoads$Orders" ⟨"DroveRoads$Orders", "addCell", "(I)V"⟩ ⟨"DroveRoads$Orders", "addCell", "(I)V"⟩ ∈ gw_tbl := gw_at 674 (by decide +kernel) (by decide +kernel)
theorem mw_675 : Cond.code ⟨"DroveRoads$Orders", "addCell", "(I)V"⟩ prog_7_method_3_code 2 none ∈ gw_tbl := gw_at 675 (by decide +kernel) (by decide +kernel)
theorem mw_676 : Cond.methodLink "DroveRoads$Parser" 81 ⟨"DroveRoads$Parser", "readSum", "(I)Z"⟩ ∈ gw_tbl := gw_at 676 (by decide +kernel) (by decide +kernel)
theorem mw_678 : Cond.instanceMethod ⟨"DroveRoads$Parser", "readSum", "(I)Z"⟩ ∈ gw_tbl := gw_at 678 (by decide +kernel) (by decide +kernel)
theorem mw_679 : Cond.code ⟨"DroveRoads$Parser", "readSum", "(I)Z"⟩ prog_8_method_9_code 5 (some .boolean) ∈ gw_tbl := gw_at 679 (by decide +kernel) (by decide +kernel)
theorem mw_680 : Cond.methodLink "DroveRoads$Parser" 84 ⟨"DroveRoads$Parser", "readTerm", "(I)Z"⟩ ∈ gw_tbl := gw_at 680 (by decide +kernel) (by decide +kernel)
theorem mw_682 : Cond.instanceMethod ⟨"DroveRoads$Parser", "readTerm", "(I)Z"⟩ ∈ gw_tbl := gw_at 682 (by decide +kernel) (by decide +kernel)
theorem mw_683 : Cond.code ⟨"DroveRoads$Parser", "readTerm", "(I)Z"⟩ prog_8_method_10_code 2 (some .boolean) ∈ gw_tbl := gw_at 683 (by decide +kernel) (by decide +kernel)
theorem mw_684 : Cond.methodLink "DroveRoads$Parser" 87 ⟨"DroveRoads$Parser", "readOperand", "()Z"⟩ ∈ gw_tbl := gw_at 684 (by decide +kernel) (by decide +kernel)
theorem mw_686 : Cond.instanceMethod ⟨"DroveRoads$Parser", "readOperand", "()Z"⟩ ∈ gw_tbl := gw_at 686 (by decide +kernel) (by decide +kernel)
theorem mw_687 : Cond.code ⟨"DroveRoads$Parser", "readOperand", "()Z"⟩ prog_8_method_11_code 4 (some .boolean) ∈ gw_tbl := gw_at 687 (by decide +kernel) (by decide +kernel)
theorem mw_689 : Cond.methodLink "DroveRoads$Parser" 59 ⟨"DroveRoads$Parser", "readAct", "()Z"⟩ ∈ gw_tbl := gw_at 689 (by decide +kernel) (by decide +kernel)
theorem mw_691 : Cond.instanceMethod ⟨"DroveRoads$Parser", "readAct", "()Z"⟩ ∈ gw_tbl := gw_at 691 (by decide +kernel) (by decide +kernel)
theorem mw_692 : Cond.code ⟨"DroveRoads$Parser", "readAct", "()Z"⟩ prog_8_method_4_code 1 (some .boolean) ∈ gw_tbl := gw_at 692 (by decide +kernel) (by decide +kernel)
theorem mw_693 : Cond.methodLink "DroveRoads$Parser" 62 ⟨"DroveRoads$Parser", "endLine", "(I)Z"⟩ ∈ gw_tbl := gw_at 693 (by decide +kernel) (by decide +kernel)
theorem mw_695 : Cond.instanceMethod ⟨"DroveRoads$Parser", "endLine", "(I)Z"⟩ ∈ gw_tbl := gw_at 695 (by decide +kernel) (by decide +kernel)
theorem mw_696 : Cond.code ⟨"DroveRoads$Parser", "endLine", "(I)Z"⟩ prog_8_method_5_code 2 (some .boolean) ∈ gw_tbl := gw_at 696 (by decide +kernel) (by decide +kernel)
theorem mw_697 : Cond.methodLink "DroveRoads$Parser" 68 ⟨"DroveRoads$Orders", "addLine", "(I)V"⟩ ∈ gw_tbl := gw_at 697 (by decide +kernel) (by decide +kernel)
theorem mw_698 : Cond.instanceMethod ⟨"DroveRoads$Orders", "addLine", "(I)V"⟩ ∈ gw_tbl := gw_at 698 (by decide +kernel) (by decide +kernel)
theorem mw_699 : Cond.selects "DroveRoads$Orders" ⟨"DroveRoads$Orders", "addLine", "(I)V"⟩ ⟨"DroveRoads$Orders", "addLine", "(I)V"⟩ ∈ gw_tbl := gw_at 699 (by decide +kernel) (by decide +kernel)
theorem mw_700 : Cond.code ⟨"DroveRoads$Orders", "addLine", "(I)V"⟩ prog_7_method_4_code 2 none ∈ gw_tbl := gw_at 700 (by decide +kernel) (by decide +kernel)
theorem mw_701 : Cond.methodLink "DroveRoadsLaw" 54 ⟨"DroveRoads", "fault", "(I)I"⟩ ∈ gw_tbl := gw_at 701 (by decide +kernel) (by decide +kernel)
theorem mw_702 : Cond.instanceMethod ⟨"DroveRoads", "fault", "(I)I"⟩ ∈ gw_tbl := gw_at 702 (by decide +kernel) (by decide +kernel)
theorem mw_703 : Cond.selects "DroveRoads" ⟨"DroveRoads", "fault", "(I)I"⟩ ⟨"DroveRoads", "fault", "(I)I"⟩ ∈ gw_tbl := gw_at 703 (by decide +kernel) (by decide +kernel)
theorem mw_704 : Cond.code ⟨"DroveRoads", "fault", "(I)I"⟩ prog_1_method_11_code 2 (some .int) ∈ gw_tbl := gw_at 704 (by decide +kernel) (by decide +kernel)
theorem mw_705 : Cond.methodLink "DroveRoadsLaw" 58 ⟨"DroveRoads", "days", "(I)I"⟩ ∈ gw_tbl := gw_at 705 (by decide +kernel) (by decide +kernel)
theorem mw_706 : Cond.instanceMethod ⟨"DroveRoads", "days", "(I)I"⟩ ∈ gw_tbl := gw_at 706 (by decide +kernel) (by decide +kernel)
theorem mw_707 : Cond.selects "DroveRoads" ⟨"DroveRoads", "days", "(I)I"⟩ ⟨"DroveRoads", "days", "(I)I"⟩ ∈ gw_tbl := gw_at 707 (by decide +kernel) (by decide +kernel)
theorem mw_708 : Cond.code ⟨"DroveRoads", "days", "(I)I"⟩ prog_1_method_12_code 3 (some .int) ∈ gw_tbl := gw_at 708 (by decide +kernel) (by decide +kernel)
theorem mw_709 : Cond.constant "DroveRoads" 131 (100000) ∈ gw_tbl := gw_at 709 (by decide +kernel) (by decide +kernel)
theorem mw_710 : Cond.methodLink "DroveRoads" 132 ⟨"DroveRoads", "passDay", "()V"⟩ ∈ gw_tbl := gw_at 710 (by decide +kernel) (by decide +kernel)
theorem mw_712 : Cond.instanceMethod ⟨"DroveRoads", "passDay", "()V"⟩ ∈ gw_tbl := gw_at 712 (by decide +kernel) (by decide +kernel)
theorem mw_713 : Cond.code ⟨"DroveRoads", "passDay", "()V"⟩ prog_1_method_30_code 3 none ∈ gw_tbl := gw_at 713 (by decide +kernel) (by decide +kernel)
theorem mw_714 : Cond.methodLink "DroveRoads" 212 ⟨"DroveRoads$Road", "grow", "()V"⟩ ∈ gw_tbl := gw_at 714 (by decide +kernel) (by decide +kernel)
theorem mw_715 : Cond.instanceMethod ⟨"DroveRoads$Road", "grow", "()V"⟩ ∈ gw_tbl := gw_at 715 (by decide +kernel) (by decide +kernel)
theorem mw_716 : Cond.selects "DroveRoads$Road" ⟨"DroveRoads$Road", "grow", "()V"⟩ ⟨"DroveRoads$Road", "grow", "()V"⟩ ∈ gw_tbl := gw_at 716 (by decide +kernel) (by decide +kernel)
theorem mw_717 : Cond.code ⟨"DroveRoads$Road", "grow", "()V"⟩ prog_11_method_12_code 2 none ∈ gw_tbl := gw_at 717 (by decide +kernel) (by decide +kernel)
theorem mw_718 : Cond.methodLink "DroveRoads$Road" 50 ⟨"java/lang/Math", "min", "(II)I"⟩ ∈ gw_tbl := gw_at 718 (by decide +kernel) (by decide +kernel)
theorem mw_719 : Cond.methodLink "DroveRoads" 218 ⟨"DroveRoads", "drive", "(LDroveRoads$Herd;)V"⟩ ∈ gw_tbl := gw_at 719 (by decide +kernel) (by decide +kernel)
theorem mw_721 : Cond.instanceMethod ⟨"DroveRoads", "drive", "(LDroveRoads$Herd;)V"⟩ ∈ gw_tbl := gw_at 721 (by decide +kernel) (by decide +kernel)
theorem mw_722 : Cond.code ⟨"DroveRoads", "drive", "(LDroveRoads$Herd;)V"⟩ prog_1_method_31_code 5 none ∈ gw_tbl := gw_at 722 (by decide +kernel) (by decide +kernel)
theorem mw_723 : Cond.methodLink "DroveRoads" 222 ⟨"DroveRoads$Reckoner", "learn", "(LDroveRoads$Herd;LDroveRoads$Road;II)V"⟩ ∈ gw_tbl := gw_at 723 (by decide +kernel) (by decide +kernel)
theorem mw_724 : Cond.instanceMethod ⟨"DroveRoads$Reckoner", "learn", "(LDroveRoads$Herd;LDroveRoads$Road;II)V"⟩ ∈ gw_tbl := gw_at 724 (by decide +kernel) (by decide +kernel)
theorem mw_725 : Cond.selects "DroveRoads$Reckoner" ⟨"DroveRoads$Reckoner", "learn", "(LDroveRoads$Herd;LDroveRoads$Road;II)V"⟩ ⟨"DroveRoads$Reckoner", "learn", "(LDroveRoads$Herd;LDroveRoads$Road;II)V"⟩ ∈ gw_tbl := gw_at 725 (by decide +kernel) (by decide +kernel)
theorem mw_726 : Cond.code ⟨"DroveRoads$Reckoner", "learn", "(LDroveRoads$Herd;LDroveRoads$Road;II)V"⟩ prog_10_method_2_code 5 none ∈ gw_tbl := gw_at 726 (by decide +kernel) (by decide +kernel)
theorem mw_727 : Cond.methodLink "DroveRoads$Reckoner" 40 ⟨"DroveRoads$Road", "grassAt", "(I)I"⟩ ∈ gw_tbl := gw_at 727 (by decide +kernel) (by decide +kernel)
theorem mw_728 : Cond.instanceMethod ⟨"DroveRoads$Road", "grassAt", "(I)I"⟩ ∈ gw_tbl := gw_at 728 (by decide +kernel) (by decide +kernel)
theorem mw_729 : Cond.selects "DroveRoads$Road" ⟨"DroveRoads$Road", "grassAt", "(I)I"⟩ ⟨"DroveRoads$Road", "grassAt", "(I)I"⟩ ∈ gw_tbl := gw_at 729 (by decide +kernel) (by decide +kernel)
theorem mw_730 : Cond.code ⟨"DroveRoads$Road", "grassAt", "(I)I"⟩ prog_11_method_10_code 2 (some .int) ∈ gw_tbl := gw_at 730 (by decide +kernel) (by decide +kernel)
theorem mw_731 : Cond.methodLink "DroveRoads$Reckoner" 46 ⟨"DroveRoads$Road", "milesOfStage", "(I)I"⟩ ∈ gw_tbl := gw_at 731 (by decide +kernel) (by decide +kernel)
theorem mw_732 : Cond.instanceMethod ⟨"DroveRoads$Road", "milesOfStage", "(I)I"⟩ ∈ gw_tbl := gw_at 732 (by decide +kernel) (by decide +kernel)
theorem mw_733 : Cond.selects "DroveRoads$Road" ⟨"DroveRoads$Road", "milesOfStage", "(I)I"⟩ ⟨"DroveRoads$Road", "milesOfStage", "(I)I"⟩ ∈ gw_tbl := gw_at 733 (by decide +kernel) (by decide +kernel)
theorem mw_734 : Cond.code ⟨"DroveRoads$Road", "milesOfStage", "(I)I"⟩ prog_11_method_8_code 2 (some .int) ∈ gw_tbl := gw_at 734 (by decide +kernel) (by decide +kernel)
theorem mw_735 : Cond.methodLink "DroveRoads$Reckoner" 49 ⟨"DroveRoads$Herd", "want", "()I"⟩ ∈ gw_tbl := gw_at 735 (by decide +kernel) (by decide +kernel)
theorem mw_736 : Cond.instanceMethod ⟨"DroveRoads$Herd", "want", "()I"⟩ ∈ gw_tbl := gw_at 736 (by decide +kernel) (by decide +kernel)
theorem mw_737 : Cond.selects "DroveRoads$Herd" ⟨"DroveRoads$Herd", "want", "()I"⟩ ⟨"DroveRoads$Herd", "want", "()I"⟩ ∈ gw_tbl := gw_at 737 (by decide +kernel) (by decide +kernel)
theorem mw_738 : Cond.code ⟨"DroveRoads$Herd", "want", "()I"⟩ prog_3_method_2_code 1 (some .int) ∈ gw_tbl := gw_at 738 (by decide +kernel) (by decide +kernel)
theorem mw_739 : Cond.methodLink "DroveRoads" 226 ⟨"DroveRoads$Reckoner", "choose", "(LDroveRoads$Orders;)I"⟩ ∈ gw_tbl := gw_at 739 (by decide +kernel) (by decide +kernel)
theorem mw_740 : Cond.instanceMethod ⟨"DroveRoads$Reckoner", "choose", "(LDroveRoads$Orders;)I"⟩ ∈ gw_tbl := gw_at 740 (by decide +kernel) (by decide +kernel)
theorem mw_741 : Cond.selects "DroveRoads$Reckoner" ⟨"DroveRoads$Reckoner", "choose", "(LDroveRoads$Orders;)I"⟩ ⟨"DroveRoads$Reckoner", "choose", "(LDroveRoads$Orders;)I"⟩ ∈ gw_tbl := gw_at 741 (by decide +kernel) (by decide +kernel)
theorem mw_742 : Cond.code ⟨"DroveRoads$Reckoner", "choose", "(LDroveRoads$Orders;)I"⟩ prog_10_method_3_code 5 (some .int) ∈ gw_tbl := gw_at 742 (by decide +kernel) (by decide +kernel)
theorem mw_743 : Cond.methodLink "DroveRoads$Reckoner" 64 ⟨"DroveRoads$Reckoner", "reckon", "([III)I"⟩ ∈ gw_tbl := gw_at 743 (by decide +kernel) (by decide +kernel)
theorem mw_745 : Cond.instanceMethod ⟨"DroveRoads$Reckoner", "reckon", "([III)I"⟩ ∈ gw_tbl := gw_at 745 (by decide +kernel) (by decide +kernel)
theorem mw_746 : Cond.code ⟨"DroveRoads$Reckoner", "reckon", "([III)I"⟩ prog_10_method_4_code 5 (some .int) ∈ gw_tbl := gw_at 746 (by decide +kernel) (by decide +kernel)
theorem mw_747 : Cond.methodLink "DroveRoads$Reckoner" 71 ⟨"DroveRoads$Reckoner", "push", "(I)V"⟩ ∈ gw_tbl := gw_at 747 (by decide +kernel) (by decide +kernel)
theorem mw_749 : Cond.instanceMethod ⟨"DroveRoads$Reckoner", "push", "(I)V"⟩ ∈ gw_tbl := gw_at 749 (by decide +kernel) (by decide +kernel)
theorem mw_750 : Cond.code ⟨"DroveRoads$Reckoner", "push", "(I)V"⟩ prog_10_method_7_code 2 none ∈ gw_tbl := gw_at 750 (by decide +kernel) (by decide +kernel)
theorem mw_751 : Cond.methodLink "DroveRoads$Reckoner" 75 ⟨"DroveRoads$Reckoner", "reckonToken", "(I)V"⟩ ∈ gw_tbl := gw_at 751 (by decide +kernel) (by decide +kernel)
theorem mw_753 : Cond.instanceMethod ⟨"DroveRoads$Reckoner", "reckonToken", "(I)V"⟩ ∈ gw_tbl := gw_at 753 (by decide +kernel) (by decide +kernel)
theorem mw_754 : Cond.code ⟨"DroveRoads$Reckoner", "reckonToken", "(I)V"⟩ prog_10_method_5_code 5 none ∈ gw_tbl := gw_at 754 (by decide +kernel) (by decide +kernel)
theorem mw_755 : Cond.methodLink "DroveRoads$Reckoner" 78 ⟨"DroveRoads$Reckoner", "pop", "()I"⟩ ∈ gw_tbl := gw_at 755 (by decide +kernel) (by decide +kernel)
theorem mw_757 : Cond.instanceMethod ⟨"DroveRoads$Reckoner", "pop", "()I"⟩ ∈ gw_tbl := gw_at 757 (by decide +kernel) (by decide +kernel)
theorem mw_758 : Cond.code ⟨"DroveRoads$Reckoner", "pop", "()I"⟩ prog_10_method_8_code 1 (some .int) ∈ gw_tbl := gw_at 758 (by decide +kernel) (by decide +kernel)
theorem mw_759 : Cond.methodLink "DroveRoads$Reckoner" 81 ⟨"DroveRoads$Reckoner", "join", "(III)I"⟩ ∈ gw_tbl := gw_at 759 (by decide +kernel) (by decide +kernel)
theorem mw_760 : Cond.static ⟨"DroveRoads$Reckoner", "join", "(III)I"⟩ ∈ gw_tbl := gw_at 760 (by decide +kernel) (by decide +kernel)
theorem mw_761 : Cond.code ⟨"DroveRoads$Reckoner", "join", "(III)I"⟩ prog_10_method_6_code 3 (some .int) ∈ gw_tbl := gw_at 761 (by decide +kernel) (by decide +kernel)
theorem mw_762 : Cond.methodLink "DroveRoads" 230 ⟨"DroveRoads", "walkOn", "(LDroveRoads$Herd;)V"⟩ ∈ gw_tbl := gw_at 762 (by decide +kernel) (by decide +kernel)
theorem mw_764 : Cond.instanceMethod ⟨"DroveRoads", "walkOn", "(LDroveRoads$Herd;)V"⟩ ∈ gw_tbl := gw_at 764 (by decide +kernel) (by decide +kernel)
theorem mw_765 : Cond.code ⟨"DroveRoads", "walkOn", "(LDroveRoads$Herd;)V"⟩ prog_1_method_32_code 3 none ∈ gw_tbl := gw_at 765 (by decide +kernel) (by decide +kernel)
theorem mw_766 : Cond.methodLink "DroveRoads" 247 ⟨"DroveRoads$Road", "milesOfStage", "(I)I"⟩ ∈ gw_tbl := gw_at 766 (by decide +kernel) (by decide +kernel)
theorem mw_767 : Cond.methodLink "DroveRoads" 250 ⟨"DroveRoads$Herd", "walk", "(I)I"⟩ ∈ gw_tbl := gw_at 767 (by decide +kernel) (by decide +kernel)
theorem mw_768 : Cond.instanceMethod ⟨"DroveRoads$Herd", "walk", "(I)I"⟩ ∈ gw_tbl := gw_at 768 (by decide +kernel) (by decide +kernel)
theorem mw_769 : Cond.selects "DroveRoads$Herd" ⟨"DroveRoads$Herd", "walk", "(I)I"⟩ ⟨"DroveRoads$Herd", "walk", "(I)I"⟩ ∈ gw_tbl := gw_at 769 (by decide +kernel) (by decide +kernel)
theorem mw_770 : Cond.code ⟨"DroveRoads$Herd", "walk", "(I)I"⟩ prog_3_method_7_code 3 (some .int) ∈ gw_tbl := gw_at 770 (by decide +kernel) (by decide +kernel)
theorem mw_771 : Cond.methodLink "DroveRoads$Herd" 60 ⟨"java/lang/Math", "max", "(II)I"⟩ ∈ gw_tbl := gw_at 771 (by decide +kernel) (by decide +kernel)
theorem mw_772 : Cond.methodLink "DroveRoads$Herd" 66 ⟨"java/lang/Math", "min", "(II)I"⟩ ∈ gw_tbl := gw_at 772 (by decide +kernel) (by decide +kernel)
theorem mw_773 : Cond.methodLink "DroveRoads" 253 ⟨"DroveRoads$Road", "noteLeft", "(II)V"⟩ ∈ gw_tbl := gw_at 773 (by decide +kernel) (by decide +kernel)
theorem mw_774 : Cond.instanceMethod ⟨"DroveRoads$Road", "noteLeft", "(II)V"⟩ ∈ gw_tbl := gw_at 774 (by decide +kernel) (by decide +kernel)
theorem mw_775 : Cond.selects "DroveRoads$Road" ⟨"DroveRoads$Road", "noteLeft", "(II)V"⟩ ⟨"DroveRoads$Road", "noteLeft", "(II)V"⟩ ∈ gw_tbl := gw_at 775 (by decide +kernel) (by decide +kernel)
theorem mw_776 : Cond.code ⟨"DroveRoads$Road", "noteLeft", "(II)V"⟩ prog_11_method_14_code 3 none ∈ gw_tbl := gw_at 776 (by decide +kernel) (by decide +kernel)
theorem mw_777 : Cond.methodLink "DroveRoads" 256 ⟨"DroveRoads$Road", "fair", "()I"⟩ ∈ gw_tbl := gw_at 777 (by decide +kernel) (by decide +kernel)
theorem mw_778 : Cond.methodLink "DroveRoads" 259 ⟨"DroveRoads$Herd", "sellAtFair", "(I)V"⟩ ∈ gw_tbl := gw_at 778 (by decide +kernel) (by decide +kernel)
theorem mw_779 : Cond.instanceMethod ⟨"DroveRoads$Herd", "sellAtFair", "(I)V"⟩ ∈ gw_tbl := gw_at 779 (by decide +kernel) (by decide +kernel)
theorem mw_780 : Cond.selects "DroveRoads$Herd" ⟨"DroveRoads$Herd", "sellAtFair", "(I)V"⟩ ⟨"DroveRoads$Herd", "sellAtFair", "(I)V"⟩ ∈ gw_tbl := gw_at 780 (by decide +kernel) (by decide +kernel)
theorem mw_781 : Cond.code ⟨"DroveRoads$Herd", "sellAtFair", "(I)V"⟩ prog_3_method_4_code 3 none ∈ gw_tbl := gw_at 781 (by decide +kernel) (by decide +kernel)
theorem mw_782 : Cond.methodLink "DroveRoads$Herd" 52 ⟨"DroveRoads$Herd", "sellHeads", "(I)I"⟩ ∈ gw_tbl := gw_at 782 (by decide +kernel) (by decide +kernel)
theorem mw_784 : Cond.instanceMethod ⟨"DroveRoads$Herd", "sellHeads", "(I)I"⟩ ∈ gw_tbl := gw_at 784 (by decide +kernel) (by decide +kernel)
theorem mw_785 : Cond.code ⟨"DroveRoads$Herd", "sellHeads", "(I)I"⟩ prog_3_method_5_code 3 (some .int) ∈ gw_tbl := gw_at 785 (by decide +kernel) (by decide +kernel)
theorem mw_786 : Cond.methodLink "DroveRoads$Herd" 56 ⟨"DroveRoads$Herd", "earn", "(I)V"⟩ ∈ gw_tbl := gw_at 786 (by decide +kernel) (by decide +kernel)
theorem mw_788 : Cond.instanceMethod ⟨"DroveRoads$Herd", "earn", "(I)V"⟩ ∈ gw_tbl := gw_at 788 (by decide +kernel) (by decide +kernel)
theorem mw_789 : Cond.code ⟨"DroveRoads$Herd", "earn", "(I)V"⟩ prog_3_method_6_code 2 none ∈ gw_tbl := gw_at 789 (by decide +kernel) (by decide +kernel)
theorem mw_790 : Cond.constant "DroveRoads$Herd" 69 (2000000000) ∈ gw_tbl := gw_at 790 (by decide +kernel) (by decide +kernel)
theorem mw_791 : Cond.methodLink "DroveRoads" 233 ⟨"DroveRoads$Herd", "sellOnTheWay", "(II)V"⟩ ∈ gw_tbl := gw_at 791 (by decide +kernel) (by decide +kernel)
theorem mw_792 : Cond.instanceMethod ⟨"DroveRoads$Herd", "sellOnTheWay", "(II)V"⟩ ∈ gw_tbl := gw_at 792 (by decide +kernel) (by decide +kernel)
theorem mw_793 : Cond.selects "DroveRoads$Herd" ⟨"DroveRoads$Herd", "sellOnTheWay", "(II)V"⟩ ⟨"DroveRoads$Herd", "sellOnTheWay", "(II)V"⟩ ∈ gw_tbl := gw_at 793 (by decide +kernel) (by decide +kernel)
theorem mw_794 : Cond.code ⟨"DroveRoads$Herd", "sellOnTheWay", "(II)V"⟩ prog_3_method_3_code 4 none ∈ gw_tbl := gw_at 794 (by decide +kernel) (by decide +kernel)
theorem mw_795 : Cond.methodLink "DroveRoads" 237 ⟨"DroveRoads$Herd", "want", "()I"⟩ ∈ gw_tbl := gw_at 795 (by decide +kernel) (by decide +kernel)
theorem mw_796 : Cond.methodLink "DroveRoads" 240 ⟨"DroveRoads$Road", "graze", "(II)I"⟩ ∈ gw_tbl := gw_at 796 (by decide +kernel) (by decide +kernel)
theorem mw_797 : Cond.instanceMethod ⟨"DroveRoads$Road", "graze", "(II)I"⟩ ∈ gw_tbl := gw_at 797 (by decide +kernel) (by decide +kernel)
theorem mw_798 : Cond.selects "DroveRoads$Road" ⟨"DroveRoads$Road", "graze", "(II)I"⟩ ⟨"DroveRoads$Road", "graze", "(II)I"⟩ ∈ gw_tbl := gw_at 798 (by decide +kernel) (by decide +kernel)
theorem mw_799 : Cond.code ⟨"DroveRoads$Road", "graze", "(II)I"⟩ prog_11_method_13_code 4 (some .int) ∈ gw_tbl := gw_at 799 (by decide +kernel) (by decide +kernel)
theorem mw_800 : Cond.methodLink "DroveRoads$Road" 56 ⟨"DroveRoads$Road", "grassAt", "(I)I"⟩ ∈ gw_tbl := gw_at 800 (by decide +kernel) (by decide +kernel)
theorem mw_801 : Cond.methodLink "DroveRoads" 243 ⟨"DroveRoads$Herd", "eat", "(IZ)V"⟩ ∈ gw_tbl := gw_at 801 (by decide +kernel) (by decide +kernel)
theorem mw_802 : Cond.instanceMethod ⟨"DroveRoads$Herd", "eat", "(IZ)V"⟩ ∈ gw_tbl := gw_at 802 (by decide +kernel) (by decide +kernel)
theorem mw_803 : Cond.selects "DroveRoads$Herd" ⟨"DroveRoads$Herd", "eat", "(IZ)V"⟩ ⟨"DroveRoads$Herd", "eat", "(IZ)V"⟩ ∈ gw_tbl := gw_at 803 (by decide +kernel) (by decide +kernel)
theorem mw_804 : Cond.code ⟨"DroveRoads$Herd", "eat", "(IZ)V"⟩ prog_3_method_8_code 4 none ∈ gw_tbl := gw_at 804 (by decide +kernel) (by decide +kernel)
theorem mw_805 : Cond.methodLink "DroveRoads$Herd" 70 ⟨"DroveRoads$Herd", "want", "()I"⟩ ∈ gw_tbl := gw_at 805 (by decide +kernel) (by decide +kernel)
theorem mw_806 : Cond.methodLink "DroveRoadsLaw" 62 ⟨"DroveRoads", "of", "(II)I"⟩ ∈ gw_tbl := gw_at 806 (by decide +kernel) (by decide +kernel)
theorem mw_807 : Cond.instanceMethod ⟨"DroveRoads", "of", "(II)I"⟩ ∈ gw_tbl := gw_at 807 (by decide +kernel) (by decide +kernel)
theorem mw_808 : Cond.selects "DroveRoads" ⟨"DroveRoads", "of", "(II)I"⟩ ⟨"DroveRoads", "of", "(II)I"⟩ ∈ gw_tbl := gw_at 808 (by decide +kernel) (by decide +kernel)
theorem mw_809 : Cond.code ⟨"DroveRoads", "of", "(II)I"⟩ prog_1_method_13_code 4 (some .int) ∈ gw_tbl := gw_at 809 (by decide +kernel) (by decide +kernel)
theorem mw_810 : Cond.methodLink "DroveRoads" 135 ⟨"DroveRoads$Herd", "tell", "(I)I"⟩ ∈ gw_tbl := gw_at 810 (by decide +kernel) (by decide +kernel)
theorem mw_811 : Cond.instanceMethod ⟨"DroveRoads$Herd", "tell", "(I)I"⟩ ∈ gw_tbl := gw_at 811 (by decide +kernel) (by decide +kernel)
theorem mw_812 : Cond.selects "DroveRoads$Herd" ⟨"DroveRoads$Herd", "tell", "(I)I"⟩ ⟨"DroveRoads$Herd", "tell", "(I)I"⟩ ∈ gw_tbl := gw_at 812 (by decide +kernel) (by decide +kernel)
theorem mw_813 : Cond.code ⟨"DroveRoads$Herd", "tell", "(I)I"⟩ prog_3_method_9_code 2 (some .int) ∈ gw_tbl := gw_at 813 (by decide +kernel) (by decide +kernel)
theorem mw_814 : Cond.methodLink "DroveRoadsLaw" 67 ⟨"DroveRoads", "at", "(II)I"⟩ ∈ gw_tbl := gw_at 814 (by decide +kernel) (by decide +kernel)
theorem mw_815 : Cond.instanceMethod ⟨"DroveRoads", "at", "(II)I"⟩ ∈ gw_tbl := gw_at 815 (by decide +kernel) (by decide +kernel)
theorem mw_816 : Cond.selects "DroveRoads" ⟨"DroveRoads", "at", "(II)I"⟩ ⟨"DroveRoads", "at", "(II)I"⟩ ∈ gw_tbl := gw_at 816 (by decide +kernel) (by decide +kernel)
theorem mw_817 : Cond.code ⟨"DroveRoads", "at", "(II)I"⟩ prog_1_method_14_code 3 (some .int) ∈ gw_tbl := gw_at 817 (by decide +kernel) (by decide +kernel)
theorem mw_818 : Cond.methodLink "DroveRoads" 138 ⟨"DroveRoads$Road", "tell", "(II)I"⟩ ∈ gw_tbl := gw_at 818 (by decide +kernel) (by decide +kernel)
theorem mw_819 : Cond.instanceMethod ⟨"DroveRoads$Road", "tell", "(II)I"⟩ ∈ gw_tbl := gw_at 819 (by decide +kernel) (by decide +kernel)
theorem mw_820 : Cond.selects "DroveRoads$Road" ⟨"DroveRoads$Road", "tell", "(II)I"⟩ ⟨"DroveRoads$Road", "tell", "(II)I"⟩ ∈ gw_tbl := gw_at 820 (by decide +kernel) (by decide +kernel)
theorem mw_821 : Cond.code ⟨"DroveRoads$Road", "tell", "(II)I"⟩ prog_11_method_15_code 3 (some .int) ∈ gw_tbl := gw_at 821 (by decide +kernel) (by decide +kernel)
theorem mw_822 : Cond.methodLink "DroveRoadsLaw" 71 ⟨"DroveRoads", "gain", "(II)I"⟩ ∈ gw_tbl := gw_at 822 (by decide +kernel) (by decide +kernel)
theorem mw_823 : Cond.instanceMethod ⟨"DroveRoads", "gain", "(II)I"⟩ ∈ gw_tbl := gw_at 823 (by decide +kernel) (by decide +kernel)
theorem mw_824 : Cond.selects "DroveRoads" ⟨"DroveRoads", "gain", "(II)I"⟩ ⟨"DroveRoads", "gain", "(II)I"⟩ ∈ gw_tbl := gw_at 824 (by decide +kernel) (by decide +kernel)
theorem mw_825 : Cond.code ⟨"DroveRoads", "gain", "(II)I"⟩ prog_1_method_15_code 4 (some .int) ∈ gw_tbl := gw_at 825 (by decide +kernel) (by decide +kernel)
theorem mw_826 : Cond.methodLink "DroveRoads" 140 ⟨"DroveRoads", "findWay", "(II)LDroveRoads$LoneWay;"⟩ ∈ gw_tbl := gw_at 826 (by decide +kernel) (by decide +kernel)
theorem mw_828 : Cond.instanceMethod ⟨"DroveRoads", "findWay", "(II)LDroveRoads$LoneWay;"⟩ ∈ gw_tbl := gw_at 828 (by decide +kernel) (by decide +kernel)
theorem mw_829 : Cond.code ⟨"DroveRoads", "findWay", "(II)LDroveRoads$LoneWay;"⟩ prog_1_method_29_code 5 (some (.object "DroveRoads$LoneWay")) ∈ gw_tbl := gw_at 829 (by decide +kernel) (by decide +kernel)
theorem mw_830 : Cond.classLink "DroveRoads" 146 "DroveRoads$LoneWay" ∈ gw_tbl := gw_at 830 (by decide +kernel) (by decide +kernel)
theorem mw_831 : Cond.instantiable "DroveRoads$LoneWay" 4 ∈ gw_tbl := gw_at 831 (by decide +kernel) (by decide +kernel)
theorem mw_832 : Cond.methodLink "DroveRoads" 206 ⟨"DroveRoads$LoneWay", "<init>", "(LDroveRoads$Road;III)V"⟩ ∈ gw_tbl := gw_at 832 (by decide +kernel) (by decide +kernel)
theorem mw_833 : Cond.instanceMethod ⟨"DroveRoads$LoneWay", "<init>", "(LDroveRoads$Road;III)V"⟩ ∈ gw_tbl := gw_at 833 (by decide +kernel) (by decide +kernel)
theorem mw_834 : Cond.code ⟨"DroveRoads$LoneWay", "<init>", "(LDroveRoads$Road;III)V"⟩ prog_6_method_1_code 5 none ∈ gw_tbl := gw_at 834 (by decide +kernel) (by decide +kernel)
theorem mw_835 : Cond.methodLink "DroveRoads$LoneWay" 3 ⟨"java/lang/Object", "<init>", "()V"⟩ ∈ gw_tbl := gw_at 835 (by decide +kernel) (by decide +kernel)
theorem mw_836 : Cond.fieldLink "DroveRoads$LoneWay" 15 "DroveRoads$LoneWay" "days" "I" ∈ gw_tbl := gw_at 836 (by decide +kernel) (by decide +kernel)
theorem mw_837 : Cond.fieldLink "DroveRoads" 151 "DroveRoads$LoneWay" "days" "I" ∈ gw_tbl := gw_at 837 (by decide +kernel) (by decide +kernel)
theorem mw_838 : Cond.fieldLink "DroveRoads$LoneWay" 9 "DroveRoads$LoneWay" "road" "LDroveRoads$Road;" ∈ gw_tbl := gw_at 838 (by decide +kernel) (by decide +kernel)
theorem mw_839 : Cond.fieldLink "DroveRoads$LoneWay" 19 "DroveRoads$LoneWay" "startStance" "I" ∈ gw_tbl := gw_at 839 (by decide +kernel) (by decide +kernel)
theorem mw_840 : Cond.fieldLink "DroveRoads$LoneWay" 22 "DroveRoads$LoneWay" "startSore" "I" ∈ gw_tbl := gw_at 840 (by decide +kernel) (by decide +kernel)
theorem mw_850 : Cond.methodLink "DroveRoads" 209 ⟨"DroveRoads$LoneWay", "comesToFair", "()Z"⟩ ∈ gw_tbl := gw_at 850 (by decide +kernel) (by decide +kernel)
theorem mw_851 : Cond.instanceMethod ⟨"DroveRoads$LoneWay", "comesToFair", "()Z"⟩ ∈ gw_tbl := gw_at 851 (by decide +kernel) (by decide +kernel)
theorem mw_852 : Cond.selects "DroveRoads$LoneWay" ⟨"DroveRoads$LoneWay", "comesToFair", "()Z"⟩ ⟨"DroveRoads$LoneWay", "comesToFair", "()Z"⟩ ∈ gw_tbl := gw_at 852 (by decide +kernel) (by decide +kernel)
theorem mw_853 : Cond.code ⟨"DroveRoads$LoneWay", "comesToFair", "()Z"⟩ prog_6_method_2_code 4 (some .boolean) ∈ gw_tbl := gw_at 853 (by decide +kernel) (by decide +kernel)
theorem mw_854 : Cond.methodLink "DroveRoads$LoneWay" 25 ⟨"DroveRoads$Road", "fair", "()I"⟩ ∈ gw_tbl := gw_at 854 (by decide +kernel) (by decide +kernel)
theorem mw_855 : Cond.methodLink "DroveRoads$LoneWay" 31 ⟨"DroveRoads$LoneWay", "mayWalk", "(II)Z"⟩ ∈ gw_tbl := gw_at 855 (by decide +kernel) (by decide +kernel)
theorem mw_857 : Cond.instanceMethod ⟨"DroveRoads$LoneWay", "mayWalk", "(II)Z"⟩ ∈ gw_tbl := gw_at 857 (by decide +kernel) (by decide +kernel)
theorem mw_858 : Cond.code ⟨"DroveRoads$LoneWay", "mayWalk", "(II)Z"⟩ prog_6_method_5_code 3 (some .boolean) ∈ gw_tbl := gw_at 858 (by decide +kernel) (by decide +kernel)
theorem mw_859 : Cond.methodLink "DroveRoads$LoneWay" 35 ⟨"DroveRoads$Road", "milesOfStage", "(I)I"⟩ ∈ gw_tbl := gw_at 859 (by decide +kernel) (by decide +kernel)
theorem mw_860 : Cond.methodLink "DroveRoads$LoneWay" 39 ⟨"DroveRoads$LoneWay", "rested", "(I)I"⟩ ∈ gw_tbl := gw_at 860 (by decide +kernel) (by decide +kernel)
theorem mw_861 : Cond.static ⟨"DroveRoads$LoneWay", "rested", "(I)I"⟩ ∈ gw_tbl := gw_at 861 (by decide +kernel) (by decide +kernel)
theorem mw_862 : Cond.code ⟨"DroveRoads$LoneWay", "rested", "(I)I"⟩ prog_6_method_6_code 1 (some .int) ∈ gw_tbl := gw_at 862 (by decide +kernel) (by decide +kernel)
theorem mw_863 : Cond.methodLink "DroveRoads$LoneWay" 42 ⟨"java/lang/Math", "max", "(II)I"⟩ ∈ gw_tbl := gw_at 863 (by decide +kernel) (by decide +kernel)
theorem mw_864 : Cond.constant "DroveRoads" 144 (-100000) ∈ gw_tbl := gw_at 864 (by decide +kernel) (by decide +kernel)
theorem mw_865 : Cond.methodLink "DroveRoads" 145 ⟨"DroveRoads$LoneWay", "bestGain", "()I"⟩ ∈ gw_tbl := gw_at 865 (by decide +kernel) (by decide +kernel)
theorem mw_866 : Cond.instanceMethod ⟨"DroveRoads$LoneWay", "bestGain", "()I"⟩ ∈ gw_tbl := gw_at 866 (by decide +kernel) (by decide +kernel)
theorem mw_867 : Cond.selects "DroveRoads$LoneWay" ⟨"DroveRoads$LoneWay", "bestGain", "()I"⟩ ⟨"DroveRoads$LoneWay", "bestGain", "()I"⟩ ∈ gw_tbl := gw_at 867 (by decide +kernel) (by decide +kernel)
theorem mw_868 : Cond.code ⟨"DroveRoads$LoneWay", "bestGain", "()I"⟩ prog_6_method_3_code 3 (some .int) ∈ gw_tbl := gw_at 868 (by decide +kernel) (by decide +kernel)
theorem mw_869 : Cond.methodLink "DroveRoadsLaw" 75 ⟨"DroveRoads", "length", "(II)I"⟩ ∈ gw_tbl := gw_at 869 (by decide +kernel) (by decide +kernel)
theorem mw_870 : Cond.instanceMethod ⟨"DroveRoads", "length", "(II)I"⟩ ∈ gw_tbl := gw_at 870 (by decide +kernel) (by decide +kernel)
theorem mw_871 : Cond.selects "DroveRoads" ⟨"DroveRoads", "length", "(II)I"⟩ ⟨"DroveRoads", "length", "(II)I"⟩ ∈ gw_tbl := gw_at 871 (by decide +kernel) (by decide +kernel)
theorem mw_872 : Cond.code ⟨"DroveRoads", "length", "(II)I"⟩ prog_1_method_16_code 4 (some .int) ∈ gw_tbl := gw_at 872 (by decide +kernel) (by decide +kernel)
theorem mw_873 : Cond.methodLink "DroveRoadsLaw" 79 ⟨"DroveRoads", "act", "(III)I"⟩ ∈ gw_tbl := gw_at 873 (by decide +kernel) (by decide +kernel)
theorem mw_874 : Cond.instanceMethod ⟨"DroveRoads", "act", "(III)I"⟩ ∈ gw_tbl := gw_at 874 (by decide +kernel) (by decide +kernel)
theorem mw_875 : Cond.selects "DroveRoads" ⟨"DroveRoads", "act", "(III)I"⟩ ⟨"DroveRoads", "act", "(III)I"⟩ ∈ gw_tbl := gw_at 875 (by decide +kernel) (by decide +kernel)
theorem mw_876 : Cond.code ⟨"DroveRoads", "act", "(III)I"⟩ prog_1_method_17_code 5 (some .int) ∈ gw_tbl := gw_at 876 (by decide +kernel) (by decide +kernel)
theorem mw_877 : Cond.methodLink "DroveRoads" 154 ⟨"DroveRoads$LoneWay", "bestAct", "(I)I"⟩ ∈ gw_tbl := gw_at 877 (by decide +kernel) (by decide +kernel)
theorem mw_878 : Cond.instanceMethod ⟨"DroveRoads$LoneWay", "bestAct", "(I)I"⟩ ∈ gw_tbl := gw_at 878 (by decide +kernel) (by decide +kernel)
theorem mw_879 : Cond.selects "DroveRoads$LoneWay" ⟨"DroveRoads$LoneWay", "bestAct", "(I)I"⟩ ⟨"DroveRoads$LoneWay", "bestAct", "(I)I"⟩ ∈ gw_tbl := gw_at 879 (by decide +kernel) (by decide +kernel)
theorem mw_880 : Cond.code ⟨"DroveRoads$LoneWay", "bestAct", "(I)I"⟩ prog_6_method_4_code 7 (some .int) ∈ gw_tbl := gw_at 880 (by decide +kernel) (by decide +kernel)
theorem mw_881 : Cond.methodLink "DroveRoadsLaw" 84 ⟨"DroveRoads", "bill", "(III)I"⟩ ∈ gw_tbl := gw_at 881 (by decide +kernel) (by decide +kernel)
theorem mw_882 : Cond.instanceMethod ⟨"DroveRoads", "bill", "(III)I"⟩ ∈ gw_tbl := gw_at 882 (by decide +kernel) (by decide +kernel)
theorem mw_883 : Cond.selects "DroveRoads" ⟨"DroveRoads", "bill", "(III)I"⟩ ⟨"DroveRoads", "bill", "(III)I"⟩ ∈ gw_tbl := gw_at 883 (by decide +kernel) (by decide +kernel)
theorem mw_884 : Cond.code ⟨"DroveRoads", "bill", "(III)I"⟩ prog_1_method_18_code 4 (some .int) ∈ gw_tbl := gw_at 884 (by decide +kernel) (by decide +kernel)
theorem mw_885 : Cond.methodLink "DroveRoads" 157 ⟨"DroveRoads$Bills", "make", "(III)I"⟩ ∈ gw_tbl := gw_at 885 (by decide +kernel) (by decide +kernel)
theorem mw_886 : Cond.instanceMethod ⟨"DroveRoads$Bills", "make", "(III)I"⟩ ∈ gw_tbl := gw_at 886 (by decide +kernel) (by decide +kernel)
theorem mw_887 : Cond.selects "DroveRoads$Bills" ⟨"DroveRoads$Bills", "make", "(III)I"⟩ ⟨"DroveRoads$Bills", "make", "(III)I"⟩ ∈ gw_tbl := gw_at 887 (by decide +kernel) (by decide +kernel)
theorem mw_888 : Cond.code ⟨"DroveRoads$Bills", "make", "(III)I"⟩ prog_2_method_3_code 5 (some .int) ∈ gw_tbl := gw_at 888 (by decide +kernel) (by decide +kernel)
theorem mw_889 : Cond.constant "DroveRoads$Bills" 38 (1000000) ∈ gw_tbl := gw_at 889 (by decide +kernel) (by decide +kernel)
theorem mw_891 : Cond.methodLink "DroveRoads$Bills" 43 ⟨"DroveRoads$Passings", "isHand", "(I)Z"⟩ ∈ gw_tbl := gw_at 891 (by decide +kernel) (by decide +kernel)
theorem mw_892 : Cond.static ⟨"DroveRoads$Passings", "isHand", "(I)Z"⟩ ∈ gw_tbl := gw_at 892 (by decide +kernel) (by decide +kernel)
theorem mw_893 : Cond.code ⟨"DroveRoads$Passings", "isHand", "(I)Z"⟩ prog_9_method_2_code 1 (some .boolean) ∈ gw_tbl := gw_at 893 (by decide +kernel) (by decide +kernel)
theorem mw_895 : Cond.constant "DroveRoads$Bills" 47 (100000) ∈ gw_tbl := gw_at 895 (by decide +kernel) (by decide +kernel)
theorem mw_896 : Cond.methodLink "DroveRoadsLaw" 88 ⟨"DroveRoads", "pass", "(IIII)I"⟩ ∈ gw_tbl := gw_at 896 (by decide +kernel) (by decide +kernel)
theorem mw_897 : Cond.instanceMethod ⟨"DroveRoads", "pass", "(IIII)I"⟩ ∈ gw_tbl := gw_at 897 (by decide +kernel) (by decide +kernel)
theorem mw_898 : Cond.selects "DroveRoads" ⟨"DroveRoads", "pass", "(IIII)I"⟩ ⟨"DroveRoads", "pass", "(IIII)I"⟩ ∈ gw_tbl := gw_at 898 (by decide +kernel) (by decide +kernel)
theorem mw_899 : Cond.code ⟨"DroveRoads", "pass", "(IIII)I"⟩ prog_1_method_19_code 5 (some .int) ∈ gw_tbl := gw_at 899 (by decide +kernel) (by decide +kernel)
theorem mw_900 : Cond.methodLink "DroveRoads" 161 ⟨"DroveRoads$Bills", "has", "(I)Z"⟩ ∈ gw_tbl := gw_at 900 (by decide +kernel) (by decide +kernel)
theorem mw_901 : Cond.instanceMethod ⟨"DroveRoads$Bills", "has", "(I)Z"⟩ ∈ gw_tbl := gw_at 901 (by decide +kernel) (by decide +kernel)
theorem mw_902 : Cond.selects "DroveRoads$Bills" ⟨"DroveRoads$Bills", "has", "(I)Z"⟩ ⟨"DroveRoads$Bills", "has", "(I)Z"⟩ ∈ gw_tbl := gw_at 902 (by decide +kernel) (by decide +kernel)
theorem mw_903 : Cond.code ⟨"DroveRoads$Bills", "has", "(I)Z"⟩ prog_2_method_2_code 2 (some .boolean) ∈ gw_tbl := gw_at 903 (by decide +kernel) (by decide +kernel)
theorem mw_904 : Cond.methodLink "DroveRoads" 166 ⟨"DroveRoads$Passings", "add", "(IIIII)I"⟩ ∈ gw_tbl := gw_at 904 (by decide +kernel) (by decide +kernel)
theorem mw_905 : Cond.instanceMethod ⟨"DroveRoads$Passings", "add", "(IIIII)I"⟩ ∈ gw_tbl := gw_at 905 (by decide +kernel) (by decide +kernel)
theorem mw_906 : Cond.selects "DroveRoads$Passings" ⟨"DroveRoads$Passings", "add", "(IIIII)I"⟩ ⟨"DroveRoads$Passings", "add", "(IIIII)I"⟩ ∈ gw_tbl := gw_at 906 (by decide +kernel) (by decide +kernel)
theorem mw_907 : Cond.code ⟨"DroveRoads$Passings", "add", "(IIIII)I"⟩ prog_9_method_3_code 6 (some .int) ∈ gw_tbl := gw_at 907 (by decide +kernel) (by decide +kernel)
theorem mw_908 : Cond.methodLink "DroveRoads$Passings" 41 ⟨"DroveRoads$Passings", "isHand", "(I)Z"⟩ ∈ gw_tbl := gw_at 908 (by decide +kernel) (by decide +kernel)
theorem mw_909 : Cond.methodLink "DroveRoads$Passings" 45 ⟨"DroveRoads$Passings", "placeByDay", "(I)V"⟩ ∈ gw_tbl := gw_at 909 (by decide +kernel) (by decide +kernel)
theorem mw_911 : Cond.instanceMethod ⟨"DroveRoads$Passings", "placeByDay", "(I)V"⟩ ∈ gw_tbl := gw_at 911 (by decide +kernel) (by decide +kernel)
theorem mw_912 : Cond.code ⟨"DroveRoads$Passings", "placeByDay", "(I)V"⟩ prog_9_method_4_code 3 none ∈ gw_tbl := gw_at 912 (by decide +kernel) (by decide +kernel)
theorem mw_913 : Cond.methodLink "DroveRoadsLaw" 92 ⟨"DroveRoads", "untell", "(I)Z"⟩ ∈ gw_tbl := gw_at 913 (by decide +kernel) (by decide +kernel)
theorem mw_914 : Cond.instanceMethod ⟨"DroveRoads", "untell", "(I)Z"⟩ ∈ gw_tbl := gw_at 914 (by decide +kernel) (by decide +kernel)
theorem mw_915 : Cond.selects "DroveRoads" ⟨"DroveRoads", "untell", "(I)Z"⟩ ⟨"DroveRoads", "untell", "(I)Z"⟩ ∈ gw_tbl := gw_at 915 (by decide +kernel) (by decide +kernel)
theorem mw_916 : Cond.code ⟨"DroveRoads", "untell", "(I)Z"⟩ prog_1_method_20_code 2 (some .boolean) ∈ gw_tbl := gw_at 916 (by decide +kernel) (by decide +kernel)
theorem mw_917 : Cond.methodLink "DroveRoads" 172 ⟨"DroveRoads$Passings", "takeBack", "(II)Z"⟩ ∈ gw_tbl := gw_at 917 (by decide +kernel) (by decide +kernel)
theorem mw_918 : Cond.instanceMethod ⟨"DroveRoads$Passings", "takeBack", "(II)Z"⟩ ∈ gw_tbl := gw_at 918 (by decide +kernel) (by decide +kernel)
theorem mw_919 : Cond.selects "DroveRoads$Passings" ⟨"DroveRoads$Passings", "takeBack", "(II)Z"⟩ ⟨"DroveRoads$Passings", "takeBack", "(II)Z"⟩ ∈ gw_tbl := gw_at 919 (by decide +kernel) (by decide +kernel)
theorem mw_920 : Cond.code ⟨"DroveRoads$Passings", "takeBack", "(II)Z"⟩ prog_9_method_5_code 3 (some .boolean) ∈ gw_tbl := gw_at 920 (by decide +kernel) (by decide +kernel)
theorem mw_921 : Cond.methodLink "DroveRoadsLaw" 96 ⟨"DroveRoads", "holder", "(III)I"⟩ ∈ gw_tbl := gw_at 921 (by decide +kernel) (by decide +kernel)
theorem mw_922 : Cond.instanceMethod ⟨"DroveRoads", "holder", "(III)I"⟩ ∈ gw_tbl := gw_at 922 (by decide +kernel) (by decide +kernel)
theorem mw_923 : Cond.selects "DroveRoads" ⟨"DroveRoads", "holder", "(III)I"⟩ ⟨"DroveRoads", "holder", "(III)I"⟩ ∈ gw_tbl := gw_at 923 (by decide +kernel) (by decide +kernel)
theorem mw_924 : Cond.code ⟨"DroveRoads", "holder", "(III)I"⟩ prog_1_method_21_code 4 (some .int) ∈ gw_tbl := gw_at 924 (by decide +kernel) (by decide +kernel)
theorem mw_925 : Cond.methodLink "DroveRoads" 176 ⟨"DroveRoads$Bills", "holderKnown", "(III)I"⟩ ∈ gw_tbl := gw_at 925 (by decide +kernel) (by decide +kernel)
theorem mw_926 : Cond.instanceMethod ⟨"DroveRoads$Bills", "holderKnown", "(III)I"⟩ ∈ gw_tbl := gw_at 926 (by decide +kernel) (by decide +kernel)
theorem mw_927 : Cond.selects "DroveRoads$Bills" ⟨"DroveRoads$Bills", "holderKnown", "(III)I"⟩ ⟨"DroveRoads$Bills", "holderKnown", "(III)I"⟩ ∈ gw_tbl := gw_at 927 (by decide +kernel) (by decide +kernel)
theorem mw_928 : Cond.code ⟨"DroveRoads$Bills", "holderKnown", "(III)I"⟩ prog_2_method_4_code 4 (some .int) ∈ gw_tbl := gw_at 928 (by decide +kernel) (by decide +kernel)
theorem mw_929 : Cond.methodLink "DroveRoads$Bills" 48 ⟨"DroveRoads$Bills", "has", "(I)Z"⟩ ∈ gw_tbl := gw_at 929 (by decide +kernel) (by decide +kernel)
theorem mw_930 : Cond.methodLink "DroveRoads$Bills" 51 ⟨"DroveRoads$Passings", "follow", "(IIII)I"⟩ ∈ gw_tbl := gw_at 930 (by decide +kernel) (by decide +kernel)
theorem mw_931 : Cond.instanceMethod ⟨"DroveRoads$Passings", "follow", "(IIII)I"⟩ ∈ gw_tbl := gw_at 931 (by decide +kernel) (by decide +kernel)
theorem mw_932 : Cond.selects "DroveRoads$Passings" ⟨"DroveRoads$Passings", "follow", "(IIII)I"⟩ ⟨"DroveRoads$Passings", "follow", "(IIII)I"⟩ ∈ gw_tbl := gw_at 932 (by decide +kernel) (by decide +kernel)
theorem mw_933 : Cond.code ⟨"DroveRoads$Passings", "follow", "(IIII)I"⟩ prog_9_method_6_code 9 (some .int) ∈ gw_tbl := gw_at 933 (by decide +kernel) (by decide +kernel)
theorem mw_934 : Cond.methodLink "DroveRoads$Passings" 49 ⟨"DroveRoads$Passings", "isKnown", "(II)Z"⟩ ∈ gw_tbl := gw_at 934 (by decide +kernel) (by decide +kernel)
theorem mw_936 : Cond.instanceMethod ⟨"DroveRoads$Passings", "isKnown", "(II)Z"⟩ ∈ gw_tbl := gw_at 936 (by decide +kernel) (by decide +kernel)
theorem mw_937 : Cond.code ⟨"DroveRoads$Passings", "isKnown", "(II)Z"⟩ prog_9_method_7_code 4 (some .boolean) ∈ gw_tbl := gw_at 937 (by decide +kernel) (by decide +kernel)
theorem mw_938 : Cond.methodLink "DroveRoadsLaw" 100 ⟨"DroveRoads", "pay", "(I)I"⟩ ∈ gw_tbl := gw_at 938 (by decide +kernel) (by decide +kernel)
theorem mw_939 : Cond.instanceMethod ⟨"DroveRoads", "pay", "(I)I"⟩ ∈ gw_tbl := gw_at 939 (by decide +kernel) (by decide +kernel)
theorem mw_940 : Cond.selects "DroveRoads" ⟨"DroveRoads", "pay", "(I)I"⟩ ⟨"DroveRoads", "pay", "(I)I"⟩ ∈ gw_tbl := gw_at 940 (by decide +kernel) (by decide +kernel)
theorem mw_941 : Cond.code ⟨"DroveRoads", "pay", "(I)I"⟩ prog_1_method_22_code 2 (some .int) ∈ gw_tbl := gw_at 941 (by decide +kernel) (by decide +kernel)
theorem mw_942 : Cond.methodLink "DroveRoads" 179 ⟨"DroveRoads$Bills", "settle", "(II)I"⟩ ∈ gw_tbl := gw_at 942 (by decide +kernel) (by decide +kernel)
theorem mw_943 : Cond.instanceMethod ⟨"DroveRoads$Bills", "settle", "(II)I"⟩ ∈ gw_tbl := gw_at 943 (by decide +kernel) (by decide +kernel)
theorem mw_944 : Cond.selects "DroveRoads$Bills" ⟨"DroveRoads$Bills", "settle", "(II)I"⟩ ⟨"DroveRoads$Bills", "settle", "(II)I"⟩ ∈ gw_tbl := gw_at 944 (by decide +kernel) (by decide +kernel)
theorem mw_945 : Cond.code ⟨"DroveRoads$Bills", "settle", "(II)I"⟩ prog_2_method_5_code 3 (some .int) ∈ gw_tbl := gw_at 945 (by decide +kernel) (by decide +kernel)
theorem mw_946 : Cond.methodLink "DroveRoads$Bills" 55 ⟨"DroveRoads$Bills", "holderKnown", "(III)I"⟩ ∈ gw_tbl := gw_at 946 (by decide +kernel) (by decide +kernel)
theorem mw_947 : Cond.methodLink "DroveRoadsLaw" 104 ⟨"DroveRoads", "paid", "(II)I"⟩ ∈ gw_tbl := gw_at 947 (by decide +kernel) (by decide +kernel)
theorem mw_948 : Cond.instanceMethod ⟨"DroveRoads", "paid", "(II)I"⟩ ∈ gw_tbl := gw_at 948 (by decide +kernel) (by decide +kernel)
theorem mw_949 : Cond.selects "DroveRoads" ⟨"DroveRoads", "paid", "(II)I"⟩ ⟨"DroveRoads", "paid", "(II)I"⟩ ∈ gw_tbl := gw_at 949 (by decide +kernel) (by decide +kernel)
theorem mw_950 : Cond.code ⟨"DroveRoads", "paid", "(II)I"⟩ prog_1_method_23_code 3 (some .int) ∈ gw_tbl := gw_at 950 (by decide +kernel) (by decide +kernel)
theorem mw_951 : Cond.methodLink "DroveRoads" 182 ⟨"DroveRoads$Bills", "tell", "(II)I"⟩ ∈ gw_tbl := gw_at 951 (by decide +kernel) (by decide +kernel)
theorem mw_952 : Cond.instanceMethod ⟨"DroveRoads$Bills", "tell", "(II)I"⟩ ∈ gw_tbl := gw_at 952 (by decide +kernel) (by decide +kernel)
theorem mw_953 : Cond.selects "DroveRoads$Bills" ⟨"DroveRoads$Bills", "tell", "(II)I"⟩ ⟨"DroveRoads$Bills", "tell", "(II)I"⟩ ∈ gw_tbl := gw_at 953 (by decide +kernel) (by decide +kernel)
theorem mw_954 : Cond.code ⟨"DroveRoads$Bills", "tell", "(II)I"⟩ prog_2_method_6_code 3 (some .int) ∈ gw_tbl := gw_at 954 (by decide +kernel) (by decide +kernel)
theorem mw_955 : Cond.methodLink "DroveRoadsLaw" 108 ⟨"DroveRoads", "about", "(I)I"⟩ ∈ gw_tbl := gw_at 955 (by decide +kernel) (by decide +kernel)
theorem mw_956 : Cond.instanceMethod ⟨"DroveRoads", "about", "(I)I"⟩ ∈ gw_tbl := gw_at 956 (by decide +kernel) (by decide +kernel)
theorem mw_957 : Cond.selects "DroveRoads" ⟨"DroveRoads", "about", "(I)I"⟩ ⟨"DroveRoads", "about", "(I)I"⟩ ∈ gw_tbl := gw_at 957 (by decide +kernel) (by decide +kernel)
theorem mw_958 : Cond.code ⟨"DroveRoads", "about", "(I)I"⟩ prog_1_method_24_code 2 (some .int) ∈ gw_tbl := gw_at 958 (by decide +kernel) (by decide +kernel)
theorem mw_959 : Cond.classLink "DroveRoadsLaw" 10 "DroveRoadsModel" ∈ gw_tbl := gw_at 959 (by decide +kernel) (by decide +kernel)
theorem mw_960 : Cond.instantiable "DroveRoadsModel" 67 ∈ gw_tbl := gw_at 960 (by decide +kernel) (by decide +kernel)
theorem mw_961 : Cond.methodLink "DroveRoadsLaw" 12 ⟨"DroveRoadsModel", "<init>", "()V"⟩ ∈ gw_tbl := gw_at 961 (by decide +kernel) (by decide +kernel)
theorem mw_962 : Cond.instanceMethod ⟨"DroveRoadsModel", "<init>", "()V"⟩ ∈ gw_tbl := gw_at 962 (by decide +kernel) (by decide +kernel)
theorem mw_963 : Cond.code ⟨"DroveRoadsModel", "<init>", "()V"⟩ prog_13_method_1_code 1 none ∈ gw_tbl := gw_at 963 (by decide +kernel) (by decide +kernel)
theorem mw_964 : Cond.methodLink "DroveRoadsModel" 1 ⟨"java/lang/Object", "<init>", "()V"⟩ ∈ gw_tbl := gw_at 964 (by decide +kernel) (by decide +kernel)
theorem mw_965 : Cond.constant "DroveRoadsModel" 116 (244000) ∈ gw_tbl := gw_at 965 (by decide +kernel) (by decide +kernel)
theorem mw_966 : Cond.fieldLink "DroveRoadsModel" 178 "DroveRoadsModel" "today" "I" ∈ gw_tbl := gw_at 966 (by decide +kernel) (by decide +kernel)
theorem mw_967 : Cond.fieldLink "DroveRoadsModel" 7 "DroveRoadsModel" "stances" "I" ∈ gw_tbl := gw_at 967 (by decide +kernel) (by decide +kernel)
theorem mw_968 : Cond.fieldLink "DroveRoadsModel" 13 "DroveRoadsModel" "miles" "[I" ∈ gw_tbl := gw_at 968 (by decide +kernel) (by decide +kernel)
theorem mw_969 : Cond.fieldLink "DroveRoadsModel" 17 "DroveRoadsModel" "grass" "[I" ∈ gw_tbl := gw_at 969 (by decide +kernel) (by decide +kernel)
theorem mw_970 : Cond.fieldLink "DroveRoadsModel" 20 "DroveRoadsModel" "grows" "[I" ∈ gw_tbl := gw_at 970 (by decide +kernel) (by decide +kernel)
theorem mw_971 : Cond.fieldLink "DroveRoadsModel" 23 "DroveRoadsModel" "most" "[I" ∈ gw_tbl := gw_at 971 (by decide +kernel) (by decide +kernel)
theorem mw_972 : Cond.fieldLink "DroveRoadsModel" 26 "DroveRoadsModel" "footsore" "[I" ∈ gw_tbl := gw_at 972 (by decide +kernel) (by decide +kernel)
theorem mw_973 : Cond.fieldLink "DroveRoadsModel" 175 "DroveRoadsModel" "letters" "I" ∈ gw_tbl := gw_at 973 (by decide +kernel) (by decide +kernel)
theorem mw_974 : Cond.fieldLink "DroveRoadsModel" 29 "DroveRoadsModel" "priceOf" "[I" ∈ gw_tbl := gw_at 974 (by decide +kernel) (by decide +kernel)
theorem mw_975 : Cond.fieldLink "DroveRoadsModel" 32 "DroveRoadsModel" "sent" "[I" ∈ gw_tbl := gw_at 975 (by decide +kernel) (by decide +kernel)
theorem mw_976 : Cond.fieldLink "DroveRoadsModel" 160 "DroveRoadsModel" "herds" "I" ∈ gw_tbl := gw_at 976 (by decide +kernel) (by decide +kernel)
theorem mw_977 : Cond.fieldLink "DroveRoadsModel" 35 "DroveRoadsModel" "heads" "[I" ∈ gw_tbl := gw_at 977 (by decide +kernel) (by decide +kernel)
theorem mw_978 : Cond.fieldLink "DroveRoadsModel" 38 "DroveRoadsModel" "weight" "[I" ∈ gw_tbl := gw_at 978 (by decide +kernel) (by decide +kernel)
theorem mw_979 : Cond.fieldLink "DroveRoadsModel" 41 "DroveRoadsModel" "need" "[I" ∈ gw_tbl := gw_at 979 (by decide +kernel) (by decide +kernel)
theorem mw_980 : Cond.fieldLink "DroveRoadsModel" 44 "DroveRoadsModel" "start" "[I" ∈ gw_tbl := gw_at 980 (by decide +kernel) (by decide +kernel)
theorem mw_981 : Cond.fieldLink "DroveRoadsModel" 47 "DroveRoadsModel" "sore" "[I" ∈ gw_tbl := gw_at 981 (by decide +kernel) (by decide +kernel)
theorem mw_982 : Cond.fieldLink "DroveRoadsModel" 50 "DroveRoadsModel" "stance" "[I" ∈ gw_tbl := gw_at 982 (by decide +kernel) (by decide +kernel)
theorem mw_983 : Cond.fieldLink "DroveRoadsModel" 53 "DroveRoadsModel" "coins" "[I" ∈ gw_tbl := gw_at 983 (by decide +kernel) (by decide +kernel)
theorem mw_984 : Cond.fieldLink "DroveRoadsModel" 56 "DroveRoadsModel" "left" "[I" ∈ gw_tbl := gw_at 984 (by decide +kernel) (by decide +kernel)
theorem mw_985 : Cond.fieldLink "DroveRoadsModel" 59 "DroveRoadsModel" "sold" "[I" ∈ gw_tbl := gw_at 985 (by decide +kernel) (by decide +kernel)
theorem mw_986 : Cond.fieldLink "DroveRoadsModel" 62 "DroveRoadsModel" "dead" "[I" ∈ gw_tbl := gw_at 986 (by decide +kernel) (by decide +kernel)
theorem mw_987 : Cond.fieldLink "DroveRoadsModel" 65 "DroveRoadsModel" "eaten" "[I" ∈ gw_tbl := gw_at 987 (by decide +kernel) (by decide +kernel)
theorem mw_988 : Cond.fieldLink "DroveRoadsModel" 68 "DroveRoadsModel" "steps" "[I" ∈ gw_tbl := gw_at 988 (by decide +kernel) (by decide +kernel)
theorem mw_989 : Cond.fieldLink "DroveRoadsModel" 71 "DroveRoadsModel" "numbers" "[I" ∈ gw_tbl := gw_at 989 (by decide +kernel) (by decide +kernel)
theorem mw_990 : Cond.fieldLink "DroveRoadsModel" 74 "DroveRoadsModel" "lineAt" "[I" ∈ gw_tbl := gw_at 990 (by decide +kernel) (by decide +kernel)
theorem mw_991 : Cond.fieldLink "DroveRoadsModel" 77 "DroveRoadsModel" "does" "[I" ∈ gw_tbl := gw_at 991 (by decide +kernel) (by decide +kernel)
theorem mw_992 : Cond.fieldLink "DroveRoadsModel" 80 "DroveRoadsModel" "sells" "[I" ∈ gw_tbl := gw_at 992 (by decide +kernel) (by decide +kernel)
theorem mw_993 : Cond.fieldLink "DroveRoadsModel" 83 "DroveRoadsModel" "lines" "[I" ∈ gw_tbl := gw_at 993 (by decide +kernel) (by decide +kernel)
theorem mw_994 : Cond.fieldLink "DroveRoadsModel" 86 "DroveRoadsModel" "newSteps" "[I" ∈ gw_tbl := gw_at 994 (by decide +kernel) (by decide +kernel)
theorem mw_995 : Cond.fieldLink "DroveRoadsModel" 89 "DroveRoadsModel" "newNumbers" "[I" ∈ gw_tbl := gw_at 995 (by decide +kernel) (by decide +kernel)
theorem mw_996 : Cond.fieldLink "DroveRoadsModel" 92 "DroveRoadsModel" "newAt" "[I" ∈ gw_tbl := gw_at 996 (by decide +kernel) (by decide +kernel)
theorem mw_997 : Cond.fieldLink "DroveRoadsModel" 95 "DroveRoadsModel" "newDoes" "[I" ∈ gw_tbl := gw_at 997 (by decide +kernel) (by decide +kernel)
theorem mw_998 : Cond.fieldLink "DroveRoadsModel" 98 "DroveRoadsModel" "newSells" "[I" ∈ gw_tbl := gw_at 998 (by decide +kernel) (by decide +kernel)
theorem mw_999 : Cond.fieldLink "DroveRoadsModel" 322 "DroveRoadsModel" "newLines" "I" ∈ gw_tbl := gw_at 999 (by decide +kernel) (by decide +kernel)
theorem mw_1000 : Cond.fieldLink "DroveRoadsModel" 267 "DroveRoadsModel" "newMany" "I" ∈ gw_tbl := gw_at 1000 (by decide +kernel) (by decide +kernel)
theorem mw_1001 : Cond.fieldLink "DroveRoadsModel" 309 "DroveRoadsModel" "values" "I" ∈ gw_tbl := gw_at 1001 (by decide +kernel) (by decide +kernel)
theorem mw_1002 : Cond.fieldLink "DroveRoadsModel" 101 "DroveRoadsModel" "tape" "[I" ∈ gw_tbl := gw_at 1002 (by decide +kernel) (by decide +kernel)
theorem mw_1003 : Cond.fieldLink "DroveRoadsModel" 192 "DroveRoadsModel" "taped" "I" ∈ gw_tbl := gw_at 1003 (by decide +kernel) (by decide +kernel)
theorem mw_1004 : Cond.fieldLink "DroveRoadsModel" 230 "DroveRoadsModel" "fault" "I" ∈ gw_tbl := gw_at 1004 (by decide +kernel) (by decide +kernel)
theorem mw_1005 : Cond.fieldLink "DroveRoadsModel" 104 "DroveRoadsModel" "faultPlace" "I" ∈ gw_tbl := gw_at 1005 (by decide +kernel) (by decide +kernel)
theorem mw_1006 : Cond.fieldLink "DroveRoadsModel" 199 "DroveRoadsModel" "at" "I" ∈ gw_tbl := gw_at 1006 (by decide +kernel) (by decide +kernel)
theorem mw_1007 : Cond.fieldLink "DroveRoadsModel" 202 "DroveRoadsModel" "size" "I" ∈ gw_tbl := gw_at 1007 (by decide +kernel) (by decide +kernel)
theorem mw_1008 : Cond.fieldLink "DroveRoadsModel" 218 "DroveRoadsModel" "sort" "I" ∈ gw_tbl := gw_at 1008 (by decide +kernel) (by decide +kernel)
theorem mw_1009 : Cond.fieldLink "DroveRoadsModel" 208 "DroveRoadsModel" "place" "I" ∈ gw_tbl := gw_at 1009 (by decide +kernel) (by decide +kernel)
theorem mw_1010 : Cond.fieldLink "DroveRoadsModel" 215 "DroveRoadsModel" "number" "I" ∈ gw_tbl := gw_at 1010 (by decide +kernel) (by decide +kernel)
theorem mw_1011 : Cond.fieldLink "DroveRoadsModel" 211 "DroveRoadsModel" "word" "J" ∈ gw_tbl := gw_at 1011 (by decide +kernel) (by decide +kernel)
theorem mw_1012 : Cond.fieldLink "DroveRoadsModel" 107 "DroveRoadsModel" "waits" "[I" ∈ gw_tbl := gw_at 1012 (by decide +kernel) (by decide +kernel)
theorem mw_1013 : Cond.fieldLink "DroveRoadsModel" 270 "DroveRoadsModel" "waiting" "I" ∈ gw_tbl := gw_at 1013 (by decide +kernel) (by decide +kernel)
theorem mw_1014 : Cond.fieldLink "DroveRoadsModel" 273 "DroveRoadsModel" "deep" "I" ∈ gw_tbl := gw_at 1014 (by decide +kernel) (by decide +kernel)
theorem mw_1015 : Cond.fieldLink "DroveRoadsModel" 110 "DroveRoadsModel" "pile" "[I" ∈ gw_tbl := gw_at 1015 (by decide +kernel) (by decide +kernel)
theorem mw_1016 : Cond.fieldLink "DroveRoadsModel" 113 "DroveRoadsModel" "names" "[I" ∈ gw_tbl := gw_at 1016 (by decide +kernel) (by decide +kernel)
theorem mw_1017 : Cond.fieldLink "DroveRoadsModel" 117 "DroveRoadsModel" "gains" "[I" ∈ gw_tbl := gw_at 1017 (by decide +kernel) (by decide +kernel)
theorem mw_1018 : Cond.fieldLink "DroveRoadsModel" 120 "DroveRoadsModel" "lasts" "[I" ∈ gw_tbl := gw_at 1018 (by decide +kernel) (by decide +kernel)
theorem mw_1019 : Cond.fieldLink "DroveRoadsModel" 123 "DroveRoadsModel" "walks" "[Z" ∈ gw_tbl := gw_at 1019 (by decide +kernel) (by decide +kernel)
theorem mw_1020 : Cond.fieldLink "DroveRoadsModel" 363 "DroveRoadsModel" "bills" "I" ∈ gw_tbl := gw_at 1020 (by decide +kernel) (by decide +kernel)
theorem mw_1021 : Cond.fieldLink "DroveRoadsModel" 370 "DroveRoadsModel" "passings" "I" ∈ gw_tbl := gw_at 1021 (by decide +kernel) (by decide +kernel)
theorem mw_1022 : Cond.fieldLink "DroveRoadsModel" 127 "DroveRoadsModel" "amount" "[I" ∈ gw_tbl := gw_at 1022 (by decide +kernel) (by decide +kernel)
theorem mw_1023 : Cond.fieldLink "DroveRoadsModel" 130 "DroveRoadsModel" "madeTo" "[I" ∈ gw_tbl := gw_at 1023 (by decide +kernel) (by decide +kernel)
theorem mw_1024 : Cond.fieldLink "DroveRoadsModel" 133 "DroveRoadsModel" "due" "[I" ∈ gw_tbl := gw_at 1024 (by decide +kernel) (by decide +kernel)
theorem mw_1025 : Cond.fieldLink "DroveRoadsModel" 136 "DroveRoadsModel" "paidOn" "[I" ∈ gw_tbl := gw_at 1025 (by decide +kernel) (by decide +kernel)
theorem mw_1026 : Cond.fieldLink "DroveRoadsModel" 139 "DroveRoadsModel" "paidTo" "[I" ∈ gw_tbl := gw_at 1026 (by decide +kernel) (by decide +kernel)
theorem mw_1027 : Cond.fieldLink "DroveRoadsModel" 142 "DroveRoadsModel" "passOf" "[I" ∈ gw_tbl := gw_at 1027 (by decide +kernel) (by decide +kernel)
theorem mw_1028 : Cond.fieldLink "DroveRoadsModel" 145 "DroveRoadsModel" "passFrom" "[I" ∈ gw_tbl := gw_at 1028 (by decide +kernel) (by decide +kernel)
theorem mw_1029 : Cond.fieldLink "DroveRoadsModel" 148 "DroveRoadsModel" "passTo" "[I" ∈ gw_tbl := gw_at 1029 (by decide +kernel) (by decide +kernel)
theorem mw_1030 : Cond.fieldLink "DroveRoadsModel" 151 "DroveRoadsModel" "passDay" "[I" ∈ gw_tbl := gw_at 1030 (by decide +kernel) (by decide +kernel)
theorem mw_1031 : Cond.fieldLink "DroveRoadsModel" 154 "DroveRoadsModel" "toldOn" "[I" ∈ gw_tbl := gw_at 1031 (by decide +kernel) (by decide +kernel)
theorem mw_1032 : Cond.fieldLink "DroveRoadsModel" 157 "DroveRoadsModel" "untoldOn" "[I" ∈ gw_tbl := gw_at 1032 (by decide +kernel) (by decide +kernel)
theorem mw_1168 : Cond.arrayClass .boolean ∈ gw_tbl := gw_at 1168 (by decide +kernel) (by decide +kernel)
theorem mw_1169 : Cond.methodLink "DroveRoadsLaw" 17 ⟨"DroveRoadsModel", "stance", "(I)I"⟩ ∈ gw_tbl := gw_at 1169 (by decide +kernel) (by decide +kernel)
theorem mw_1170 : Cond.instanceMethod ⟨"DroveRoadsModel", "stance", "(I)I"⟩ ∈ gw_tbl := gw_at 1170 (by decide +kernel) (by decide +kernel)
theorem mw_1171 : Cond.selects "DroveRoadsModel" ⟨"DroveRoadsModel", "stance", "(I)I"⟩ ⟨"DroveRoadsModel", "stance", "(I)I"⟩ ∈ gw_tbl := gw_at 1171 (by decide +kernel) (by decide +kernel)
theorem mw_1172 : Cond.code ⟨"DroveRoadsModel", "stance", "(I)I"⟩ prog_13_method_5_code 2 (some .int) ∈ gw_tbl := gw_at 1172 (by decide +kernel) (by decide +kernel)
theorem mw_1173 : Cond.methodLink "DroveRoadsModel" 163 ⟨"DroveRoadsModel", "areMiles", "(I)Z"⟩ ∈ gw_tbl := gw_at 1173 (by decide +kernel) (by decide +kernel)
theorem mw_1174 : Cond.static ⟨"DroveRoadsModel", "areMiles", "(I)Z"⟩ ∈ gw_tbl := gw_at 1174 (by decide +kernel) (by decide +kernel)
theorem mw_1175 : Cond.code ⟨"DroveRoadsModel", "areMiles", "(I)Z"⟩ prog_13_method_4_code 1 (some .boolean) ∈ gw_tbl := gw_at 1175 (by decide +kernel) (by decide +kernel)
theorem mw_1176 : Cond.methodLink "DroveRoadsLaw" 22 ⟨"DroveRoadsModel", "first", "(I)Z"⟩ ∈ gw_tbl := gw_at 1176 (by decide +kernel) (by decide +kernel)
theorem mw_1177 : Cond.instanceMethod ⟨"DroveRoadsModel", "first", "(I)Z"⟩ ∈ gw_tbl := gw_at 1177 (by decide +kernel) (by decide +kernel)
theorem mw_1178 : Cond.selects "DroveRoadsModel" ⟨"DroveRoadsModel", "first", "(I)Z"⟩ ⟨"DroveRoadsModel", "first", "(I)Z"⟩ ∈ gw_tbl := gw_at 1178 (by decide +kernel) (by decide +kernel)
theorem mw_1179 : Cond.code ⟨"DroveRoadsModel", "first", "(I)Z"⟩ prog_13_method_6_code 2 (some .boolean) ∈ gw_tbl := gw_at 1179 (by decide +kernel) (by decide +kernel)
theorem mw_1180 : Cond.methodLink "DroveRoadsLaw" 27 ⟨"DroveRoadsModel", "grass", "(IIII)Z"⟩ ∈ gw_tbl := gw_at 1180 (by decide +kernel) (by decide +kernel)
theorem mw_1181 : Cond.instanceMethod ⟨"DroveRoadsModel", "grass", "(IIII)Z"⟩ ∈ gw_tbl := gw_at 1181 (by decide +kernel) (by decide +kernel)
theorem mw_1182 : Cond.selects "DroveRoadsModel" ⟨"DroveRoadsModel", "grass", "(IIII)Z"⟩ ⟨"DroveRoadsModel", "grass", "(IIII)Z"⟩ ∈ gw_tbl := gw_at 1182 (by decide +kernel) (by decide +kernel)
theorem mw_1183 : Cond.code ⟨"DroveRoadsModel", "grass", "(IIII)Z"⟩ prog_13_method_7_code 5 (some .boolean) ∈ gw_tbl := gw_at 1183 (by decide +kernel) (by decide +kernel)
theorem mw_1184 : Cond.methodLink "DroveRoadsModel" 167 ⟨"DroveRoadsModel", "isStance", "(I)Z"⟩ ∈ gw_tbl := gw_at 1184 (by decide +kernel) (by decide +kernel)
theorem mw_1186 : Cond.instanceMethod ⟨"DroveRoadsModel", "isStance", "(I)Z"⟩ ∈ gw_tbl := gw_at 1186 (by decide +kernel) (by decide +kernel)
theorem mw_1187 : Cond.code ⟨"DroveRoadsModel", "isStance", "(I)Z"⟩ prog_13_method_2_code 2 (some .boolean) ∈ gw_tbl := gw_at 1187 (by decide +kernel) (by decide +kernel)
theorem mw_1188 : Cond.methodLink "DroveRoadsModel" 170 ⟨"DroveRoadsModel", "fair", "()I"⟩ ∈ gw_tbl := gw_at 1188 (by decide +kernel) (by decide +kernel)
theorem mw_1190 : Cond.instanceMethod ⟨"DroveRoadsModel", "fair", "()I"⟩ ∈ gw_tbl := gw_at 1190 (by decide +kernel) (by decide +kernel)
theorem mw_1191 : Cond.code ⟨"DroveRoadsModel", "fair", "()I"⟩ prog_13_method_3_code 1 (some .int) ∈ gw_tbl := gw_at 1191 (by decide +kernel) (by decide +kernel)
theorem mw_1192 : Cond.constant "DroveRoadsModel" 174 (100000) ∈ gw_tbl := gw_at 1192 (by decide +kernel) (by decide +kernel)
theorem mw_1193 : Cond.methodLink "DroveRoadsLaw" 36 ⟨"DroveRoadsModel", "letter", "(I)I"⟩ ∈ gw_tbl := gw_at 1193 (by decide +kernel) (by decide +kernel)
theorem mw_1194 : Cond.instanceMethod ⟨"DroveRoadsModel", "letter", "(I)I"⟩ ∈ gw_tbl := gw_at 1194 (by decide +kernel) (by decide +kernel)
theorem mw_1195 : Cond.selects "DroveRoadsModel" ⟨"DroveRoadsModel", "letter", "(I)I"⟩ ⟨"DroveRoadsModel", "letter", "(I)I"⟩ ∈ gw_tbl := gw_at 1195 (by decide +kernel) (by decide +kernel)
theorem mw_1196 : Cond.code ⟨"DroveRoadsModel", "letter", "(I)I"⟩ prog_13_method_9_code 2 (some .int) ∈ gw_tbl := gw_at 1196 (by decide +kernel) (by decide +kernel)
theorem mw_1197 : Cond.methodLink "DroveRoadsLaw" 40 ⟨"DroveRoadsModel", "known", "(I)I"⟩ ∈ gw_tbl := gw_at 1197 (by decide +kernel) (by decide +kernel)
theorem mw_1198 : Cond.instanceMethod ⟨"DroveRoadsModel", "known", "(I)I"⟩ ∈ gw_tbl := gw_at 1198 (by decide +kernel) (by decide +kernel)
theorem mw_1199 : Cond.selects "DroveRoadsModel" ⟨"DroveRoadsModel", "known", "(I)I"⟩ ⟨"DroveRoadsModel", "known", "(I)I"⟩ ∈ gw_tbl := gw_at 1199 (by decide +kernel) (by decide +kernel)
theorem mw_1200 : Cond.code ⟨"DroveRoadsModel", "known", "(I)I"⟩ prog_13_method_11_code 2 (some .int) ∈ gw_tbl := gw_at 1200 (by decide +kernel) (by decide +kernel)
theorem mw_1201 : Cond.methodLink "DroveRoadsModel" 185 ⟨"DroveRoadsModel", "knownAt", "(II)I"⟩ ∈ gw_tbl := gw_at 1201 (by decide +kernel) (by decide +kernel)
theorem mw_1203 : Cond.instanceMethod ⟨"DroveRoadsModel", "knownAt", "(II)I"⟩ ∈ gw_tbl := gw_at 1203 (by decide +kernel) (by decide +kernel)
theorem mw_1204 : Cond.code ⟨"DroveRoadsModel", "knownAt", "(II)I"⟩ prog_13_method_10_code 6 (some .int) ∈ gw_tbl := gw_at 1204 (by decide +kernel) (by decide +kernel)
theorem mw_1205 : Cond.methodLink "DroveRoadsModel" 181 ⟨"DroveRoadsModel", "toFair", "(I)I"⟩ ∈ gw_tbl := gw_at 1205 (by decide +kernel) (by decide +kernel)
theorem mw_1207 : Cond.instanceMethod ⟨"DroveRoadsModel", "toFair", "(I)I"⟩ ∈ gw_tbl := gw_at 1207 (by decide +kernel) (by decide +kernel)
theorem mw_1208 : Cond.code ⟨"DroveRoadsModel", "toFair", "(I)I"⟩ prog_13_method_8_code 4 (some .int) ∈ gw_tbl := gw_at 1208 (by decide +kernel) (by decide +kernel)
theorem mw_1209 : Cond.methodLink "DroveRoadsLaw" 32 ⟨"DroveRoadsModel", "herd", "(IIII)I"⟩ ∈ gw_tbl := gw_at 1209 (by decide +kernel) (by decide +kernel)
theorem mw_1210 : Cond.instanceMethod ⟨"DroveRoadsModel", "herd", "(IIII)I"⟩ ∈ gw_tbl := gw_at 1210 (by decide +kernel) (by decide +kernel)
theorem mw_1211 : Cond.selects "DroveRoadsModel" ⟨"DroveRoadsModel", "herd", "(IIII)I"⟩ ⟨"DroveRoadsModel", "herd", "(IIII)I"⟩ ∈ gw_tbl := gw_at 1211 (by decide +kernel) (by decide +kernel)
theorem mw_1212 : Cond.code ⟨"DroveRoadsModel", "herd", "(IIII)I"⟩ prog_13_method_13_code 6 (some .int) ∈ gw_tbl := gw_at 1212 (by decide +kernel) (by decide +kernel)
theorem mw_1213 : Cond.methodLink "DroveRoadsLaw" 66 ⟨"DroveRoadsModel", "of", "(II)I"⟩ ∈ gw_tbl := gw_at 1213 (by decide +kernel) (by decide +kernel)
theorem mw_1214 : Cond.instanceMethod ⟨"DroveRoadsModel", "of", "(II)I"⟩ ∈ gw_tbl := gw_at 1214 (by decide +kernel) (by decide +kernel)
theorem mw_1215 : Cond.selects "DroveRoadsModel" ⟨"DroveRoadsModel", "of", "(II)I"⟩ ⟨"DroveRoadsModel", "of", "(II)I"⟩ ∈ gw_tbl := gw_at 1215 (by decide +kernel) (by decide +kernel)
theorem mw_1216 : Cond.code ⟨"DroveRoadsModel", "of", "(II)I"⟩ prog_13_method_14_code 3 (some .int) ∈ gw_tbl := gw_at 1216 (by decide +kernel) (by decide +kernel)
theorem mw_1217 : Cond.methodLink "DroveRoadsModel" 189 ⟨"DroveRoadsModel", "isHerd", "(I)Z"⟩ ∈ gw_tbl := gw_at 1217 (by decide +kernel) (by decide +kernel)
theorem mw_1219 : Cond.instanceMethod ⟨"DroveRoadsModel", "isHerd", "(I)Z"⟩ ∈ gw_tbl := gw_at 1219 (by decide +kernel) (by decide +kernel)
theorem mw_1220 : Cond.code ⟨"DroveRoadsModel", "isHerd", "(I)Z"⟩ prog_13_method_12_code 2 (some .boolean) ∈ gw_tbl := gw_at 1220 (by decide +kernel) (by decide +kernel)
theorem mw_1221 : Cond.methodLink "DroveRoadsLaw" 70 ⟨"DroveRoadsModel", "at", "(II)I"⟩ ∈ gw_tbl := gw_at 1221 (by decide +kernel) (by decide +kernel)
theorem mw_1222 : Cond.instanceMethod ⟨"DroveRoadsModel", "at", "(II)I"⟩ ∈ gw_tbl := gw_at 1222 (by decide +kernel) (by decide +kernel)
theorem mw_1223 : Cond.selects "DroveRoadsModel" ⟨"DroveRoadsModel", "at", "(II)I"⟩ ⟨"DroveRoadsModel", "at", "(II)I"⟩ ∈ gw_tbl := gw_at 1223 (by decide +kernel) (by decide +kernel)
theorem mw_1224 : Cond.code ⟨"DroveRoadsModel", "at", "(II)I"⟩ prog_13_method_15_code 3 (some .int) ∈ gw_tbl := gw_at 1224 (by decide +kernel) (by decide +kernel)
theorem mw_1225 : Cond.methodLink "DroveRoadsLaw" 45 ⟨"DroveRoadsModel", "feed", "(IIIII)I"⟩ ∈ gw_tbl := gw_at 1225 (by decide +kernel) (by decide +kernel)
theorem mw_1226 : Cond.instanceMethod ⟨"DroveRoadsModel", "feed", "(IIIII)I"⟩ ∈ gw_tbl := gw_at 1226 (by decide +kernel) (by decide +kernel)
theorem mw_1227 : Cond.selects "DroveRoadsModel" ⟨"DroveRoadsModel", "feed", "(IIIII)I"⟩ ⟨"DroveRoadsModel", "feed", "(IIIII)I"⟩ ∈ gw_tbl := gw_at 1227 (by decide +kernel) (by decide +kernel)
theorem mw_1228 : Cond.code ⟨"DroveRoadsModel", "feed", "(IIIII)I"⟩ prog_13_method_16_code 6 (some .int) ∈ gw_tbl := gw_at 1228 (by decide +kernel) (by decide +kernel)
theorem mw_1229 : Cond.methodLink "DroveRoadsModel" 195 ⟨"DroveRoadsModel", "four", "(I)V"⟩ ∈ gw_tbl := gw_at 1229 (by decide +kernel) (by decide +kernel)
theorem mw_1231 : Cond.instanceMethod ⟨"DroveRoadsModel", "four", "(I)V"⟩ ∈ gw_tbl := gw_at 1231 (by decide +kernel) (by decide +kernel)
theorem mw_1232 : Cond.code ⟨"DroveRoadsModel", "four", "(I)V"⟩ prog_13_method_17_code 3 none ∈ gw_tbl := gw_at 1232 (by decide +kernel) (by decide +kernel)
theorem mw_1233 : Cond.methodLink "DroveRoadsLaw" 49 ⟨"DroveRoadsModel", "end", "(I)I"⟩ ∈ gw_tbl := gw_at 1233 (by decide +kernel) (by decide +kernel)
theorem mw_1234 : Cond.instanceMethod ⟨"DroveRoadsModel", "end", "(I)I"⟩ ∈ gw_tbl := gw_at 1234 (by decide +kernel) (by decide +kernel)
theorem mw_1235 : Cond.selects "DroveRoadsModel" ⟨"DroveRoadsModel", "end", "(I)I"⟩ ⟨"DroveRoadsModel", "end", "(I)I"⟩ ∈ gw_tbl := gw_at 1235 (by decide +kernel) (by decide +kernel)
theorem mw_1236 : Cond.code ⟨"DroveRoadsModel", "end", "(I)I"⟩ prog_13_method_18_code 2 (some .int) ∈ gw_tbl := gw_at 1236 (by decide +kernel) (by decide +kernel)
theorem mw_1237 : Cond.methodLink "DroveRoadsLaw" 53 ⟨"DroveRoadsModel", "orders", "(I)I"⟩ ∈ gw_tbl := gw_at 1237 (by decide +kernel) (by decide +kernel)
theorem mw_1238 : Cond.instanceMethod ⟨"DroveRoadsModel", "orders", "(I)I"⟩ ∈ gw_tbl := gw_at 1238 (by decide +kernel) (by decide +kernel)
theorem mw_1239 : Cond.selects "DroveRoadsModel" ⟨"DroveRoadsModel", "orders", "(I)I"⟩ ⟨"DroveRoadsModel", "orders", "(I)I"⟩ ∈ gw_tbl := gw_at 1239 (by decide +kernel) (by decide +kernel)
theorem mw_1240 : Cond.code ⟨"DroveRoadsModel", "orders", "(I)I"⟩ prog_13_method_38_code 3 (some .int) ∈ gw_tbl := gw_at 1240 (by decide +kernel) (by decide +kernel)
theorem mw_1241 : Cond.methodLink "DroveRoadsModel" 312 ⟨"DroveRoadsModel", "next", "()V"⟩ ∈ gw_tbl := gw_at 1241 (by decide +kernel) (by decide +kernel)
theorem mw_1243 : Cond.instanceMethod ⟨"DroveRoadsModel", "next", "()V"⟩ ∈ gw_tbl := gw_at 1243 (by decide +kernel) (by decide +kernel)
theorem mw_1244 : Cond.code ⟨"DroveRoadsModel", "next", "()V"⟩ prog_13_method_23_code 3 none ∈ gw_tbl := gw_at 1244 (by decide +kernel) (by decide +kernel)
theorem mw_1245 : Cond.methodLink "DroveRoadsModel" 205 ⟨"DroveRoadsModel", "here", "(I)I"⟩ ∈ gw_tbl := gw_at 1245 (by decide +kernel) (by decide +kernel)
theorem mw_1247 : Cond.instanceMethod ⟨"DroveRoadsModel", "here", "(I)I"⟩ ∈ gw_tbl := gw_at 1247 (by decide +kernel) (by decide +kernel)
theorem mw_1248 : Cond.code ⟨"DroveRoadsModel", "here", "(I)I"⟩ prog_13_method_19_code 2 (some .int) ∈ gw_tbl := gw_at 1248 (by decide +kernel) (by decide +kernel)
theorem mw_1249 : Cond.methodLink "DroveRoadsModel" 221 ⟨"DroveRoadsModel", "isLetter", "(I)Z"⟩ ∈ gw_tbl := gw_at 1249 (by decide +kernel) (by decide +kernel)
theorem mw_1250 : Cond.static ⟨"DroveRoadsModel", "isLetter", "(I)Z"⟩ ∈ gw_tbl := gw_at 1250 (by decide +kernel) (by decide +kernel)
theorem mw_1251 : Cond.code ⟨"DroveRoadsModel", "isLetter", "(I)Z"⟩ prog_13_method_20_code 1 (some .boolean) ∈ gw_tbl := gw_at 1251 (by decide +kernel) (by decide +kernel)
theorem mw_1252 : Cond.methodLink "DroveRoadsModel" 224 ⟨"DroveRoadsModel", "isDigit", "(I)Z"⟩ ∈ gw_tbl := gw_at 1252 (by decide +kernel) (by decide +kernel)
theorem mw_1253 : Cond.static ⟨"DroveRoadsModel", "isDigit", "(I)Z"⟩ ∈ gw_tbl := gw_at 1253 (by decide +kernel) (by decide +kernel)
theorem mw_1254 : Cond.code ⟨"DroveRoadsModel", "isDigit", "(I)Z"⟩ prog_13_method_21_code 1 (some .boolean) ∈ gw_tbl := gw_at 1254 (by decide +kernel) (by decide +kernel)
theorem mw_1255 : Cond.methodLink "DroveRoadsModel" 227 ⟨"DroveRoadsModel", "isSign", "(I)Z"⟩ ∈ gw_tbl := gw_at 1255 (by decide +kernel) (by decide +kernel)
theorem mw_1256 : Cond.static ⟨"DroveRoadsModel", "isSign", "(I)Z"⟩ ∈ gw_tbl := gw_at 1256 (by decide +kernel) (by decide +kernel)
theorem mw_1257 : Cond.code ⟨"DroveRoadsModel", "isSign", "(I)Z"⟩ prog_13_method_22_code 1 (some .boolean) ∈ gw_tbl := gw_at 1257 (by decide +kernel) (by decide +kernel)
theorem mw_1258 : Cond.constantLong "DroveRoadsModel" 233 (2003330414) ∈ gw_tbl := gw_at 1258 (by decide +kernel) (by decide +kernel)
theorem mw_1259 : Cond.methodLink "DroveRoadsModel" 283 ⟨"DroveRoadsModel", "isWord", "(J)Z"⟩ ∈ gw_tbl := gw_at 1259 (by decide +kernel) (by decide +kernel)
theorem mw_1261 : Cond.instanceMethod ⟨"DroveRoadsModel", "isWord", "(J)Z"⟩ ∈ gw_tbl := gw_at 1261 (by decide +kernel) (by decide +kernel)
theorem mw_1262 : Cond.code ⟨"DroveRoadsModel", "isWord", "(J)Z"⟩ prog_13_method_25_code 3 (some .boolean) ∈ gw_tbl := gw_at 1262 (by decide +kernel) (by decide +kernel)
theorem mw_1263 : Cond.methodLink "DroveRoadsModel" 303 ⟨"DroveRoadsModel", "wrong", "(I)V"⟩ ∈ gw_tbl := gw_at 1263 (by decide +kernel) (by decide +kernel)
theorem mw_1265 : Cond.instanceMethod ⟨"DroveRoadsModel", "wrong", "(I)V"⟩ ∈ gw_tbl := gw_at 1265 (by decide +kernel) (by decide +kernel)
theorem mw_1266 : Cond.code ⟨"DroveRoadsModel", "wrong", "(I)V"⟩ prog_13_method_24_code 2 none ∈ gw_tbl := gw_at 1266 (by decide +kernel) (by decide +kernel)
theorem mw_1267 : Cond.methodLink "DroveRoadsModel" 325 ⟨"DroveRoadsModel", "readE", "()V"⟩ ∈ gw_tbl := gw_at 1267 (by decide +kernel) (by decide +kernel)
theorem mw_1269 : Cond.instanceMethod ⟨"DroveRoadsModel", "readE", "()V"⟩ ∈ gw_tbl := gw_at 1269 (by decide +kernel) (by decide +kernel)
theorem mw_1270 : Cond.code ⟨"DroveRoadsModel", "readE", "()V"⟩ prog_13_method_33_code 2 none ∈ gw_tbl := gw_at 1270 (by decide +kernel) (by decide +kernel)
theorem mw_1271 : Cond.constantLong "DroveRoadsModel" 235 (25711) ∈ gw_tbl := gw_at 1271 (by decide +kernel) (by decide +kernel)
theorem mw_1272 : Cond.methodLink "DroveRoadsModel" 287 ⟨"DroveRoadsModel", "isOpen", "()Z"⟩ ∈ gw_tbl := gw_at 1272 (by decide +kernel) (by decide +kernel)
theorem mw_1274 : Cond.instanceMethod ⟨"DroveRoadsModel", "isOpen", "()Z"⟩ ∈ gw_tbl := gw_at 1274 (by decide +kernel) (by decide +kernel)
theorem mw_1275 : Cond.code ⟨"DroveRoadsModel", "isOpen", "()Z"⟩ prog_13_method_32_code 3 (some .boolean) ∈ gw_tbl := gw_at 1275 (by decide +kernel) (by decide +kernel)
theorem mw_1276 : Cond.methodLink "DroveRoadsModel" 291 ⟨"DroveRoadsModel", "sign", "()I"⟩ ∈ gw_tbl := gw_at 1276 (by decide +kernel) (by decide +kernel)
theorem mw_1278 : Cond.instanceMethod ⟨"DroveRoadsModel", "sign", "()I"⟩ ∈ gw_tbl := gw_at 1278 (by decide +kernel) (by decide +kernel)
theorem mw_1279 : Cond.code ⟨"DroveRoadsModel", "sign", "()I"⟩ prog_13_method_35_code 2 (some .int) ∈ gw_tbl := gw_at 1279 (by decide +kernel) (by decide +kernel)
theorem mw_1280 : Cond.methodLink "DroveRoadsModel" 297 ⟨"DroveRoadsModel", "settle", "(I)V"⟩ ∈ gw_tbl := gw_at 1280 (by decide +kernel) (by decide +kernel)
theorem mw_1282 : Cond.instanceMethod ⟨"DroveRoadsModel", "settle", "(I)V"⟩ ∈ gw_tbl := gw_at 1282 (by decide +kernel) (by decide +kernel)
theorem mw_1283 : Cond.code ⟨"DroveRoadsModel", "settle", "(I)V"⟩ prog_13_method_31_code 2 none ∈ gw_tbl := gw_at 1283 (by decide +kernel) (by decide +kernel)
theorem mw_1284 : Cond.methodLink "DroveRoadsModel" 280 ⟨"DroveRoadsModel", "pop", "()V"⟩ ∈ gw_tbl := gw_at 1284 (by decide +kernel) (by decide +kernel)
theorem mw_1286 : Cond.instanceMethod ⟨"DroveRoadsModel", "pop", "()V"⟩ ∈ gw_tbl := gw_at 1286 (by decide +kernel) (by decide +kernel)
theorem mw_1287 : Cond.code ⟨"DroveRoadsModel", "pop", "()V"⟩ prog_13_method_30_code 1 none ∈ gw_tbl := gw_at 1287 (by decide +kernel) (by decide +kernel)
theorem mw_1288 : Cond.methodLink "DroveRoadsModel" 276 ⟨"DroveRoadsModel", "step", "(II)V"⟩ ∈ gw_tbl := gw_at 1288 (by decide +kernel) (by decide +kernel)
theorem mw_1290 : Cond.instanceMethod ⟨"DroveRoadsModel", "step", "(II)V"⟩ ∈ gw_tbl := gw_at 1290 (by decide +kernel) (by decide +kernel)
theorem mw_1291 : Cond.code ⟨"DroveRoadsModel", "step", "(II)V"⟩ prog_13_method_28_code 3 none ∈ gw_tbl := gw_at 1291 (by decide +kernel) (by decide +kernel)
theorem mw_1292 : Cond.methodLink "DroveRoadsModel" 315 ⟨"DroveRoadsModel", "hold", "(I)V"⟩ ∈ gw_tbl := gw_at 1292 (by decide +kernel) (by decide +kernel)
theorem mw_1294 : Cond.instanceMethod ⟨"DroveRoadsModel", "hold", "(I)V"⟩ ∈ gw_tbl := gw_at 1294 (by decide +kernel) (by decide +kernel)
theorem mw_1295 : Cond.code ⟨"DroveRoadsModel", "hold", "(I)V"⟩ prog_13_method_29_code 2 none ∈ gw_tbl := gw_at 1295 (by decide +kernel) (by decide +kernel)
theorem mw_1296 : Cond.constantLong "DroveRoadsModel" 245 (6385252) ∈ gw_tbl := gw_at 1296 (by decide +kernel) (by decide +kernel)
theorem mw_1297 : Cond.constantLong "DroveRoadsModel" 243 (28530) ∈ gw_tbl := gw_at 1297 (by decide +kernel) (by decide +kernel)
theorem mw_1298 : Cond.methodLink "DroveRoadsModel" 318 ⟨"DroveRoadsModel", "settleOnes", "(Z)V"⟩ ∈ gw_tbl := gw_at 1298 (by decide +kernel) (by decide +kernel)
theorem mw_1300 : Cond.instanceMethod ⟨"DroveRoadsModel", "settleOnes", "(Z)V"⟩ ∈ gw_tbl := gw_at 1300 (by decide +kernel) (by decide +kernel)
theorem mw_1301 : Cond.code ⟨"DroveRoadsModel", "settleOnes", "(Z)V"⟩ prog_13_method_36_code 4 none ∈ gw_tbl := gw_at 1301 (by decide +kernel) (by decide +kernel)
theorem mw_1302 : Cond.methodLink "DroveRoadsModel" 294 ⟨"DroveRoadsModel", "operand", "(I)I"⟩ ∈ gw_tbl := gw_at 1302 (by decide +kernel) (by decide +kernel)
theorem mw_1304 : Cond.instanceMethod ⟨"DroveRoadsModel", "operand", "(I)I"⟩ ∈ gw_tbl := gw_at 1304 (by decide +kernel) (by decide +kernel)
theorem mw_1305 : Cond.code ⟨"DroveRoadsModel", "operand", "(I)I"⟩ prog_13_method_34_code 4 (some .int) ∈ gw_tbl := gw_at 1305 (by decide +kernel) (by decide +kernel)
theorem mw_1306 : Cond.methodLink "DroveRoadsModel" 300 ⟨"DroveRoadsModel", "isKey", "()Z"⟩ ∈ gw_tbl := gw_at 1306 (by decide +kernel) (by decide +kernel)
theorem mw_1308 : Cond.instanceMethod ⟨"DroveRoadsModel", "isKey", "()Z"⟩ ∈ gw_tbl := gw_at 1308 (by decide +kernel) (by decide +kernel)
theorem mw_1309 : Cond.code ⟨"DroveRoadsModel", "isKey", "()Z"⟩ prog_13_method_26_code 1 (some .boolean) ∈ gw_tbl := gw_at 1309 (by decide +kernel) (by decide +kernel)
theorem mw_1310 : Cond.constantLong "DroveRoadsModel" 237 (2002873451) ∈ gw_tbl := gw_at 1310 (by decide +kernel) (by decide +kernel)
theorem mw_1311 : Cond.constantLong "DroveRoadsModel" 239 (1919251316) ∈ gw_tbl := gw_at 1311 (by decide +kernel) (by decide +kernel)
theorem mw_1312 : Cond.constantLong "DroveRoadsModel" 241 (1936026732) ∈ gw_tbl := gw_at 1312 (by decide +kernel) (by decide +kernel)
theorem mw_1313 : Cond.constantLong "DroveRoadsModel" 247 (7237492) ∈ gw_tbl := gw_at 1313 (by decide +kernel) (by decide +kernel)
theorem mw_1314 : Cond.methodLink "DroveRoadsModel" 306 ⟨"DroveRoadsModel", "named", "()I"⟩ ∈ gw_tbl := gw_at 1314 (by decide +kernel) (by decide +kernel)
theorem mw_1316 : Cond.instanceMethod ⟨"DroveRoadsModel", "named", "()I"⟩ ∈ gw_tbl := gw_at 1316 (by decide +kernel) (by decide +kernel)
theorem mw_1317 : Cond.code ⟨"DroveRoadsModel", "named", "()I"⟩ prog_13_method_27_code 1 (some .int) ∈ gw_tbl := gw_at 1317 (by decide +kernel) (by decide +kernel)
theorem mw_1318 : Cond.constantLong "DroveRoadsModel" 249 (6578553) ∈ gw_tbl := gw_at 1318 (by decide +kernel) (by decide +kernel)
theorem mw_1319 : Cond.constantLong "DroveRoadsModel" 251 (448377480307) ∈ gw_tbl := gw_at 1319 (by decide +kernel) (by decide +kernel)
theorem mw_1320 : Cond.constantLong "DroveRoadsModel" 253 (131277443786868) ∈ gw_tbl := gw_at 1320 (by decide +kernel) (by decide +kernel)
theorem mw_1321 : Cond.constantLong "DroveRoadsModel" 255 (1936683621) ∈ gw_tbl := gw_at 1321 (by decide +kernel) (by decide +kernel)
theorem mw_1322 : Cond.constantLong "DroveRoadsModel" 257 (444300620659) ∈ gw_tbl := gw_at 1322 (by decide +kernel) (by decide +kernel)
theorem mw_1323 : Cond.constantLong "DroveRoadsModel" 259 (469920146803) ∈ gw_tbl := gw_at 1323 (by decide +kernel) (by decide +kernel)
theorem mw_1324 : Cond.constantLong "DroveRoadsModel" 261 (126943688024933) ∈ gw_tbl := gw_at 1324 (by decide +kernel) (by decide +kernel)
theorem mw_1325 : Cond.constantLong "DroveRoadsModel" 263 (482955846501) ∈ gw_tbl := gw_at 1325 (by decide +kernel) (by decide +kernel)
theorem mw_1326 : Cond.constantLong "DroveRoadsModel" 265 (2002873972) ∈ gw_tbl := gw_at 1326 (by decide +kernel) (by decide +kernel)
theorem mw_1327 : Cond.methodLink "DroveRoadsModel" 328 ⟨"DroveRoadsModel", "readAct", "()V"⟩ ∈ gw_tbl := gw_at 1327 (by decide +kernel) (by decide +kernel)
theorem mw_1329 : Cond.instanceMethod ⟨"DroveRoadsModel", "readAct", "()V"⟩ ∈ gw_tbl := gw_at 1329 (by decide +kernel) (by decide +kernel)
theorem mw_1330 : Cond.code ⟨"DroveRoadsModel", "readAct", "()V"⟩ prog_13_method_37_code 2 none ∈ gw_tbl := gw_at 1330 (by decide +kernel) (by decide +kernel)
theorem mw_1331 : Cond.methodLink "DroveRoadsLaw" 57 ⟨"DroveRoadsModel", "fault", "(I)I"⟩ ∈ gw_tbl := gw_at 1331 (by decide +kernel) (by decide +kernel)
theorem mw_1332 : Cond.instanceMethod ⟨"DroveRoadsModel", "fault", "(I)I"⟩ ∈ gw_tbl := gw_at 1332 (by decide +kernel) (by decide +kernel)
theorem mw_1333 : Cond.selects "DroveRoadsModel" ⟨"DroveRoadsModel", "fault", "(I)I"⟩ ⟨"DroveRoadsModel", "fault", "(I)I"⟩ ∈ gw_tbl := gw_at 1333 (by decide +kernel) (by decide +kernel)
theorem mw_1334 : Cond.code ⟨"DroveRoadsModel", "fault", "(I)I"⟩ prog_13_method_39_code 2 (some .int) ∈ gw_tbl := gw_at 1334 (by decide +kernel) (by decide +kernel)
theorem mw_1335 : Cond.methodLink "DroveRoadsLaw" 61 ⟨"DroveRoadsModel", "days", "(I)I"⟩ ∈ gw_tbl := gw_at 1335 (by decide +kernel) (by decide +kernel)
theorem mw_1336 : Cond.instanceMethod ⟨"DroveRoadsModel", "days", "(I)I"⟩ ∈ gw_tbl := gw_at 1336 (by decide +kernel) (by decide +kernel)
theorem mw_1337 : Cond.selects "DroveRoadsModel" ⟨"DroveRoadsModel", "days", "(I)I"⟩ ⟨"DroveRoadsModel", "days", "(I)I"⟩ ∈ gw_tbl := gw_at 1337 (by decide +kernel) (by decide +kernel)
theorem mw_1338 : Cond.code ⟨"DroveRoadsModel", "days", "(I)I"⟩ prog_13_method_46_code 4 (some .int) ∈ gw_tbl := gw_at 1338 (by decide +kernel) (by decide +kernel)
theorem mw_1339 : Cond.methodLink "DroveRoadsModel" 352 ⟨"DroveRoadsModel", "go", "(I)V"⟩ ∈ gw_tbl := gw_at 1339 (by decide +kernel) (by decide +kernel)
theorem mw_1341 : Cond.instanceMethod ⟨"DroveRoadsModel", "go", "(I)V"⟩ ∈ gw_tbl := gw_at 1341 (by decide +kernel) (by decide +kernel)
theorem mw_1342 : Cond.code ⟨"DroveRoadsModel", "go", "(I)V"⟩ prog_13_method_45_code 6 none ∈ gw_tbl := gw_at 1342 (by decide +kernel) (by decide +kernel)
theorem mw_1343 : Cond.methodLink "DroveRoadsModel" 338 ⟨"DroveRoadsModel", "holds", "(II)Z"⟩ ∈ gw_tbl := gw_at 1343 (by decide +kernel) (by decide +kernel)
theorem mw_1345 : Cond.instanceMethod ⟨"DroveRoadsModel", "holds", "(II)Z"⟩ ∈ gw_tbl := gw_at 1345 (by decide +kernel) (by decide +kernel)
theorem mw_1346 : Cond.code ⟨"DroveRoadsModel", "holds", "(II)Z"⟩ prog_13_method_40_code 8 (some .boolean) ∈ gw_tbl := gw_at 1346 (by decide +kernel) (by decide +kernel)
theorem mw_1347 : Cond.methodLink "DroveRoadsModel" 334 ⟨"DroveRoadsModel", "earn", "(IIII)V"⟩ ∈ gw_tbl := gw_at 1347 (by decide +kernel) (by decide +kernel)
theorem mw_1349 : Cond.instanceMethod ⟨"DroveRoadsModel", "earn", "(IIII)V"⟩ ∈ gw_tbl := gw_at 1349 (by decide +kernel) (by decide +kernel)
theorem mw_1350 : Cond.code ⟨"DroveRoadsModel", "earn", "(IIII)V"⟩ prog_13_method_41_code 7 none ∈ gw_tbl := gw_at 1350 (by decide +kernel) (by decide +kernel)
theorem mw_1351 : Cond.constantLong "DroveRoadsModel" 331 (2000000000) ∈ gw_tbl := gw_at 1351 (by decide +kernel) (by decide +kernel)
theorem mw_1352 : Cond.constant "DroveRoadsModel" 333 (2000000000) ∈ gw_tbl := gw_at 1352 (by decide +kernel) (by decide +kernel)
theorem mw_1353 : Cond.methodLink "DroveRoadsModel" 342 ⟨"DroveRoadsModel", "rest", "(I)V"⟩ ∈ gw_tbl := gw_at 1353 (by decide +kernel) (by decide +kernel)
theorem mw_1355 : Cond.instanceMethod ⟨"DroveRoadsModel", "rest", "(I)V"⟩ ∈ gw_tbl := gw_at 1355 (by decide +kernel) (by decide +kernel)
theorem mw_1356 : Cond.code ⟨"DroveRoadsModel", "rest", "(I)V"⟩ prog_13_method_42_code 2 none ∈ gw_tbl := gw_at 1356 (by decide +kernel) (by decide +kernel)
theorem mw_1357 : Cond.methodLink "DroveRoadsModel" 345 ⟨"DroveRoadsModel", "walk", "(I)V"⟩ ∈ gw_tbl := gw_at 1357 (by decide +kernel) (by decide +kernel)
theorem mw_1359 : Cond.instanceMethod ⟨"DroveRoadsModel", "walk", "(I)V"⟩ ∈ gw_tbl := gw_at 1359 (by decide +kernel) (by decide +kernel)
theorem mw_1360 : Cond.code ⟨"DroveRoadsModel", "walk", "(I)V"⟩ prog_13_method_43_code 4 none ∈ gw_tbl := gw_at 1360 (by decide +kernel) (by decide +kernel)
theorem mw_1361 : Cond.methodLink "DroveRoadsModel" 348 ⟨"DroveRoadsModel", "eat", "(IZ)V"⟩ ∈ gw_tbl := gw_at 1361 (by decide +kernel) (by decide +kernel)
theorem mw_1363 : Cond.instanceMethod ⟨"DroveRoadsModel", "eat", "(IZ)V"⟩ ∈ gw_tbl := gw_at 1363 (by decide +kernel) (by decide +kernel)
theorem mw_1364 : Cond.code ⟨"DroveRoadsModel", "eat", "(IZ)V"⟩ prog_13_method_44_code 7 none ∈ gw_tbl := gw_at 1364 (by decide +kernel) (by decide +kernel)
theorem mw_1365 : Cond.methodLink "DroveRoadsLaw" 74 ⟨"DroveRoadsModel", "gain", "(II)I"⟩ ∈ gw_tbl := gw_at 1365 (by decide +kernel) (by decide +kernel)
theorem mw_1366 : Cond.instanceMethod ⟨"DroveRoadsModel", "gain", "(II)I"⟩ ∈ gw_tbl := gw_at 1366 (by decide +kernel) (by decide +kernel)
theorem mw_1367 : Cond.selects "DroveRoadsModel" ⟨"DroveRoadsModel", "gain", "(II)I"⟩ ⟨"DroveRoadsModel", "gain", "(II)I"⟩ ∈ gw_tbl := gw_at 1367 (by decide +kernel) (by decide +kernel)
theorem mw_1368 : Cond.code ⟨"DroveRoadsModel", "gain", "(II)I"⟩ prog_13_method_49_code 3 (some .int) ∈ gw_tbl := gw_at 1368 (by decide +kernel) (by decide +kernel)
theorem mw_1369 : Cond.methodLink "DroveRoadsModel" 360 ⟨"DroveRoadsModel", "fill", "(II)Z"⟩ ∈ gw_tbl := gw_at 1369 (by decide +kernel) (by decide +kernel)
theorem mw_1371 : Cond.instanceMethod ⟨"DroveRoadsModel", "fill", "(II)Z"⟩ ∈ gw_tbl := gw_at 1371 (by decide +kernel) (by decide +kernel)
theorem mw_1372 : Cond.code ⟨"DroveRoadsModel", "fill", "(II)Z"⟩ prog_13_method_48_code 11 (some .boolean) ∈ gw_tbl := gw_at 1372 (by decide +kernel) (by decide +kernel)
theorem mw_1373 : Cond.methodLink "DroveRoadsModel" 355 ⟨"DroveRoadsModel", "cell", "(III)I"⟩ ∈ gw_tbl := gw_at 1373 (by decide +kernel) (by decide +kernel)
theorem mw_1374 : Cond.static ⟨"DroveRoadsModel", "cell", "(III)I"⟩ ∈ gw_tbl := gw_at 1374 (by decide +kernel) (by decide +kernel)
theorem mw_1375 : Cond.code ⟨"DroveRoadsModel", "cell", "(III)I"⟩ prog_13_method_47_code 3 (some .int) ∈ gw_tbl := gw_at 1375 (by decide +kernel) (by decide +kernel)
theorem mw_1376 : Cond.constant "DroveRoadsModel" 359 (-100000) ∈ gw_tbl := gw_at 1376 (by decide +kernel) (by decide +kernel)
theorem mw_1377 : Cond.methodLink "DroveRoadsLaw" 78 ⟨"DroveRoadsModel", "length", "(II)I"⟩ ∈ gw_tbl := gw_at 1377 (by decide +kernel) (by decide +kernel)
theorem mw_1378 : Cond.instanceMethod ⟨"DroveRoadsModel", "length", "(II)I"⟩ ∈ gw_tbl := gw_at 1378 (by decide +kernel) (by decide +kernel)
theorem mw_1379 : Cond.selects "DroveRoadsModel" ⟨"DroveRoadsModel", "length", "(II)I"⟩ ⟨"DroveRoadsModel", "length", "(II)I"⟩ ∈ gw_tbl := gw_at 1379 (by decide +kernel) (by decide +kernel)
theorem mw_1380 : Cond.code ⟨"DroveRoadsModel", "length", "(II)I"⟩ prog_13_method_50_code 3 (some .int) ∈ gw_tbl := gw_at 1380 (by decide +kernel) (by decide +kernel)
theorem mw_1381 : Cond.methodLink "DroveRoadsLaw" 83 ⟨"DroveRoadsModel", "act", "(III)I"⟩ ∈ gw_tbl := gw_at 1381 (by decide +kernel) (by decide +kernel)
theorem mw_1382 : Cond.instanceMethod ⟨"DroveRoadsModel", "act", "(III)I"⟩ ∈ gw_tbl := gw_at 1382 (by decide +kernel) (by decide +kernel)
theorem mw_1383 : Cond.selects "DroveRoadsModel" ⟨"DroveRoadsModel", "act", "(III)I"⟩ ⟨"DroveRoadsModel", "act", "(III)I"⟩ ∈ gw_tbl := gw_at 1383 (by decide +kernel) (by decide +kernel)
theorem mw_1384 : Cond.code ⟨"DroveRoadsModel", "act", "(III)I"⟩ prog_13_method_51_code 7 (some .int) ∈ gw_tbl := gw_at 1384 (by decide +kernel) (by decide +kernel)
theorem mw_1385 : Cond.methodLink "DroveRoadsLaw" 87 ⟨"DroveRoadsModel", "bill", "(III)I"⟩ ∈ gw_tbl := gw_at 1385 (by decide +kernel) (by decide +kernel)
theorem mw_1386 : Cond.instanceMethod ⟨"DroveRoadsModel", "bill", "(III)I"⟩ ∈ gw_tbl := gw_at 1386 (by decide +kernel) (by decide +kernel)
theorem mw_1387 : Cond.selects "DroveRoadsModel" ⟨"DroveRoadsModel", "bill", "(III)I"⟩ ⟨"DroveRoadsModel", "bill", "(III)I"⟩ ∈ gw_tbl := gw_at 1387 (by decide +kernel) (by decide +kernel)
theorem mw_1388 : Cond.code ⟨"DroveRoadsModel", "bill", "(III)I"⟩ prog_13_method_54_code 4 (some .int) ∈ gw_tbl := gw_at 1388 (by decide +kernel) (by decide +kernel)
theorem mw_1389 : Cond.constant "DroveRoadsModel" 366 (1000000) ∈ gw_tbl := gw_at 1389 (by decide +kernel) (by decide +kernel)
theorem mw_1390 : Cond.methodLink "DroveRoadsModel" 367 ⟨"DroveRoadsModel", "isHand", "(I)Z"⟩ ∈ gw_tbl := gw_at 1390 (by decide +kernel) (by decide +kernel)
theorem mw_1391 : Cond.static ⟨"DroveRoadsModel", "isHand", "(I)Z"⟩ ∈ gw_tbl := gw_at 1391 (by decide +kernel) (by decide +kernel)
theorem mw_1392 : Cond.code ⟨"DroveRoadsModel", "isHand", "(I)Z"⟩ prog_13_method_52_code 1 (some .boolean) ∈ gw_tbl := gw_at 1392 (by decide +kernel) (by decide +kernel)
theorem mw_1393 : Cond.methodLink "DroveRoadsLaw" 91 ⟨"DroveRoadsModel", "pass", "(IIII)I"⟩ ∈ gw_tbl := gw_at 1393 (by decide +kernel) (by decide +kernel)
theorem mw_1394 : Cond.instanceMethod ⟨"DroveRoadsModel", "pass", "(IIII)I"⟩ ∈ gw_tbl := gw_at 1394 (by decide +kernel) (by decide +kernel)
theorem mw_1395 : Cond.selects "DroveRoadsModel" ⟨"DroveRoadsModel", "pass", "(IIII)I"⟩ ⟨"DroveRoadsModel", "pass", "(IIII)I"⟩ ∈ gw_tbl := gw_at 1395 (by decide +kernel) (by decide +kernel)
theorem mw_1396 : Cond.code ⟨"DroveRoadsModel", "pass", "(IIII)I"⟩ prog_13_method_55_code 5 (some .int) ∈ gw_tbl := gw_at 1396 (by decide +kernel) (by decide +kernel)
theorem mw_1397 : Cond.methodLink "DroveRoadsModel" 373 ⟨"DroveRoadsModel", "isBill", "(I)Z"⟩ ∈ gw_tbl := gw_at 1397 (by decide +kernel) (by decide +kernel)
theorem mw_1399 : Cond.instanceMethod ⟨"DroveRoadsModel", "isBill", "(I)Z"⟩ ∈ gw_tbl := gw_at 1399 (by decide +kernel) (by decide +kernel)
theorem mw_1400 : Cond.code ⟨"DroveRoadsModel", "isBill", "(I)Z"⟩ prog_13_method_53_code 2 (some .boolean) ∈ gw_tbl := gw_at 1400 (by decide +kernel) (by decide +kernel)
theorem mw_1401 : Cond.methodLink "DroveRoadsLaw" 95 ⟨"DroveRoadsModel", "untell", "(I)Z"⟩ ∈ gw_tbl := gw_at 1401 (by decide +kernel) (by decide +kernel)
theorem mw_1402 : Cond.instanceMethod ⟨"DroveRoadsModel", "untell", "(I)Z"⟩ ∈ gw_tbl := gw_at 1402 (by decide +kernel) (by decide +kernel)
theorem mw_1403 : Cond.selects "DroveRoadsModel" ⟨"DroveRoadsModel", "untell", "(I)Z"⟩ ⟨"DroveRoadsModel", "untell", "(I)Z"⟩ ∈ gw_tbl := gw_at 1403 (by decide +kernel) (by decide +kernel)
theorem mw_1404 : Cond.code ⟨"DroveRoadsModel", "untell", "(I)Z"⟩ prog_13_method_56_code 2 (some .boolean) ∈ gw_tbl := gw_at 1404 (by decide +kernel) (by decide +kernel)
theorem mw_1405 : Cond.methodLink "DroveRoadsLaw" 99 ⟨"DroveRoadsModel", "holder", "(III)I"⟩ ∈ gw_tbl := gw_at 1405 (by decide +kernel) (by decide +kernel)
theorem mw_1406 : Cond.instanceMethod ⟨"DroveRoadsModel", "holder", "(III)I"⟩ ∈ gw_tbl := gw_at 1406 (by decide +kernel) (by decide +kernel)
theorem mw_1407 : Cond.selects "DroveRoadsModel" ⟨"DroveRoadsModel", "holder", "(III)I"⟩ ⟨"DroveRoadsModel", "holder", "(III)I"⟩ ∈ gw_tbl := gw_at 1407 (by decide +kernel) (by decide +kernel)
theorem mw_1408 : Cond.code ⟨"DroveRoadsModel", "holder", "(III)I"⟩ prog_13_method_57_code 12 (some .int) ∈ gw_tbl := gw_at 1408 (by decide +kernel) (by decide +kernel)
theorem mw_1409 : Cond.methodLink "DroveRoadsLaw" 103 ⟨"DroveRoadsModel", "pay", "(I)I"⟩ ∈ gw_tbl := gw_at 1409 (by decide +kernel) (by decide +kernel)
theorem mw_1410 : Cond.instanceMethod ⟨"DroveRoadsModel", "pay", "(I)I"⟩ ∈ gw_tbl := gw_at 1410 (by decide +kernel) (by decide +kernel)
theorem mw_1411 : Cond.selects "DroveRoadsModel" ⟨"DroveRoadsModel", "pay", "(I)I"⟩ ⟨"DroveRoadsModel", "pay", "(I)I"⟩ ∈ gw_tbl := gw_at 1411 (by decide +kernel) (by decide +kernel)
theorem mw_1412 : Cond.code ⟨"DroveRoadsModel", "pay", "(I)I"⟩ prog_13_method_58_code 2 (some .int) ∈ gw_tbl := gw_at 1412 (by decide +kernel) (by decide +kernel)
theorem mw_1413 : Cond.methodLink "DroveRoadsModel" 376 ⟨"DroveRoadsModel", "holder", "(III)I"⟩ ∈ gw_tbl := gw_at 1413 (by decide +kernel) (by decide +kernel)
theorem mw_1414 : Cond.methodLink "DroveRoadsLaw" 107 ⟨"DroveRoadsModel", "paid", "(II)I"⟩ ∈ gw_tbl := gw_at 1414 (by decide +kernel) (by decide +kernel)
theorem mw_1415 : Cond.instanceMethod ⟨"DroveRoadsModel", "paid", "(II)I"⟩ ∈ gw_tbl := gw_at 1415 (by decide +kernel) (by decide +kernel)
theorem mw_1416 : Cond.selects "DroveRoadsModel" ⟨"DroveRoadsModel", "paid", "(II)I"⟩ ⟨"DroveRoadsModel", "paid", "(II)I"⟩ ∈ gw_tbl := gw_at 1416 (by decide +kernel) (by decide +kernel)
theorem mw_1417 : Cond.code ⟨"DroveRoadsModel", "paid", "(II)I"⟩ prog_13_method_59_code 3 (some .int) ∈ gw_tbl := gw_at 1417 (by decide +kernel) (by decide +kernel)
theorem mw_1418 : Cond.methodLink "DroveRoadsLaw" 111 ⟨"DroveRoadsModel", "about", "(I)I"⟩ ∈ gw_tbl := gw_at 1418 (by decide +kernel) (by decide +kernel)
theorem mw_1419 : Cond.instanceMethod ⟨"DroveRoadsModel", "about", "(I)I"⟩ ∈ gw_tbl := gw_at 1419 (by decide +kernel) (by decide +kernel)
theorem mw_1420 : Cond.selects "DroveRoadsModel" ⟨"DroveRoadsModel", "about", "(I)I"⟩ ⟨"DroveRoadsModel", "about", "(I)I"⟩ ∈ gw_tbl := gw_at 1420 (by decide +kernel) (by decide +kernel)
theorem mw_1421 : Cond.code ⟨"DroveRoadsModel", "about", "(I)I"⟩ prog_13_method_60_code 2 (some .int) ∈ gw_tbl := gw_at 1421 (by decide +kernel) (by decide +kernel)
theorem mw_1422 : Cond.fieldLink "java/lang/String" 9 "java/lang/String" "value" "[B" ∈ gw_tbl := gw_at 1422 (by decide +kernel) (by decide +kernel)
theorem mw_1423 : Cond.fieldLink "java/lang/String" 15 "java/lang/String" "coder" "B" ∈ gw_tbl := gw_at 1423 (by decide +kernel) (by decide +kernel)
theorem mw_cmin : Cond.code Lib.Math.min.name Lib.Math.min.code 2 (some .int) ∈ gw_tbl := gw_at 447 (by decide +kernel) (by decide +kernel)
theorem mw_cmax : Cond.code Lib.Math.max.name Lib.Math.max.code 2 (some .int) ∈ gw_tbl := gw_at 600 (by decide +kernel) (by decide +kernel)
theorem inX0 : ∀ w ∈ u_ws RX0 TX0 7, w ∈ gw_tbl := fun w h => gw_in ((by decide +kernel : ∀ w ∈ u_ws RX0 TX0 7, w ∈ lw_tbl) w h) ((by decide +kernel : ∀ w ∈ u_ws RX0 TX0 7, goodWord w = true) w h)
theorem inX1 : ∀ w ∈ u_ws RX1 TX1 12, w ∈ gw_tbl := fun w h => gw_in ((by decide +kernel : ∀ w ∈ u_ws RX1 TX1 12, w ∈ lw_tbl) w h) ((by decide +kernel : ∀ w ∈ u_ws RX1 TX1 12, goodWord w = true) w h)
theorem inX2 : ∀ w ∈ u_ws RX2 TX2 3, w ∈ gw_tbl := fun w h => gw_in ((by decide +kernel : ∀ w ∈ u_ws RX2 TX2 3, w ∈ lw_tbl) w h) ((by decide +kernel : ∀ w ∈ u_ws RX2 TX2 3, goodWord w = true) w h)
theorem inX3 : ∀ w ∈ u_ws RX3 TX3 6, w ∈ gw_tbl := fun w h => gw_in ((by decide +kernel : ∀ w ∈ u_ws RX3 TX3 6, w ∈ lw_tbl) w h) ((by decide +kernel : ∀ w ∈ u_ws RX3 TX3 6, goodWord w = true) w h)
theorem inX4 : ∀ w ∈ u_ws RX4 TX4 4, w ∈ gw_tbl := fun w h => gw_in ((by decide +kernel : ∀ w ∈ u_ws RX4 TX4 4, w ∈ lw_tbl) w h) ((by decide +kernel : ∀ w ∈ u_ws RX4 TX4 4, goodWord w = true) w h)
theorem inX5 : ∀ w ∈ u_ws RX5 TX5 5, w ∈ gw_tbl := fun w h => gw_in ((by decide +kernel : ∀ w ∈ u_ws RX5 TX5 5, w ∈ lw_tbl) w h) ((by decide +kernel : ∀ w ∈ u_ws RX5 TX5 5, goodWord w = true) w h)
theorem inX6 : ∀ w ∈ u_ws RX6 TX6 5, w ∈ gw_tbl := fun w h => gw_in ((by decide +kernel : ∀ w ∈ u_ws RX6 TX6 5, w ∈ lw_tbl) w h) ((by decide +kernel : ∀ w ∈ u_ws RX6 TX6 5, goodWord w = true) w h)
theorem inX7 : ∀ w ∈ u_ws RX7 TX7 8, w ∈ gw_tbl := fun w h => gw_in ((by decide +kernel : ∀ w ∈ u_ws RX7 TX7 8, w ∈ lw_tbl) w h) ((by decide +kernel : ∀ w ∈ u_ws RX7 TX7 8, goodWord w = true) w h)
theorem inX8 : ∀ w ∈ u_ws RX8 TX8 3, w ∈ gw_tbl := fun w h => gw_in ((by decide +kernel : ∀ w ∈ u_ws RX8 TX8 3, w ∈ lw_tbl) w h) ((by decide +kernel : ∀ w ∈ u_ws RX8 TX8 3, goodWord w = true) w h)
theorem inX9 : ∀ w ∈ u_ws RX9 TX9 7, w ∈ gw_tbl := fun w h => gw_in ((by decide +kernel : ∀ w ∈ u_ws RX9 TX9 7, w ∈ lw_tbl) w h) ((by decide +kernel : ∀ w ∈ u_ws RX9 TX9 7, goodWord w = true) w h)
theorem inX10 : ∀ w ∈ u_ws RX10 TX10 12, w ∈ gw_tbl := fun w h => gw_in ((by decide +kernel : ∀ w ∈ u_ws RX10 TX10 12, w ∈ lw_tbl) w h) ((by decide +kernel : ∀ w ∈ u_ws RX10 TX10 12, goodWord w = true) w h)
theorem inX11 : ∀ w ∈ u_ws RX11 TX11 67, w ∈ gw_tbl := fun w h => gw_in ((by decide +kernel : ∀ w ∈ u_ws RX11 TX11 67, w ∈ lw_tbl) w h) ((by decide +kernel : ∀ w ∈ u_ws RX11 TX11 67, goodWord w = true) w h)
end
