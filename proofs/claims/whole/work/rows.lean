section
-- ===== PART A: goes FIRST, ahead of the names: the tables' words, and 'selects' of the private methods out of them =====
/-- a private method of a class that the tables say can be made, by its rows of tables_1 -/
def lw_okq (q : MethodName × Nat) : Prop := (q.1.cls ≠ "java/lang/invoke/MethodHandle" ∧ q.1.cls ≠ "java/lang/invoke/VarHandle") ∧ Cond.instantiable q.1.cls q.2 ∈ tables_1 ∧ Cond.privateMethod q.1 ∈ tables_1 ∧ Cond.instanceMethod q.1 ∈ tables_1
theorem lw_p0 : lw_okq (⟨"LockOrchestra", "refuse", "(I)I"⟩, 18) := ⟨⟨by decide +kernel, by decide +kernel⟩, List.mem_of_getElem? (i := 23) (by decide +kernel), List.mem_of_getElem? (i := 331) (by decide +kernel), List.mem_of_getElem? (i := 332) (by decide +kernel)⟩
theorem lw_p1 : lw_okq (⟨"LockOrchestra$Tape", "addByte", "(I)V"⟩, 2) := ⟨⟨by decide +kernel, by decide +kernel⟩, List.mem_of_getElem? (i := 31) (by decide +kernel), List.mem_of_getElem? (i := 345) (by decide +kernel), List.mem_of_getElem? (i := 346) (by decide +kernel)⟩
theorem lw_p2 : lw_okq (⟨"LockOrchestra$HallReader", "readLock", "(LLockOrchestra$Hall;)V"⟩, 2) := ⟨⟨by decide +kernel, by decide +kernel⟩, List.mem_of_getElem? (i := 70) (by decide +kernel), List.mem_of_getElem? (i := 459) (by decide +kernel), List.mem_of_getElem? (i := 460) (by decide +kernel)⟩
theorem lw_p3 : lw_okq (⟨"LockOrchestra$HallReader", "readNew", "(LLockOrchestra$Hall;I)I"⟩, 2) := ⟨⟨by decide +kernel, by decide +kernel⟩, List.mem_of_getElem? (i := 70) (by decide +kernel), List.mem_of_getElem? (i := 463) (by decide +kernel), List.mem_of_getElem? (i := 464) (by decide +kernel)⟩
theorem lw_p4 : lw_okq (⟨"LockOrchestra$Words", "isOwnWord", "()Z"⟩, 6) := ⟨⟨by decide +kernel, by decide +kernel⟩, List.mem_of_getElem? (i := 45) (by decide +kernel), List.mem_of_getElem? (i := 487) (by decide +kernel), List.mem_of_getElem? (i := 488) (by decide +kernel)⟩
theorem lw_p5 : lw_okq (⟨"LockOrchestra$HallReader", "readNote", "(LLockOrchestra$Hall;)V"⟩, 2) := ⟨⟨by decide +kernel, by decide +kernel⟩, List.mem_of_getElem? (i := 70) (by decide +kernel), List.mem_of_getElem? (i := 540) (by decide +kernel), List.mem_of_getElem? (i := 541) (by decide +kernel)⟩
theorem lw_p6 : lw_okq (⟨"LockOrchestra$HallReader", "readKnown", "(LLockOrchestra$Hall;II)I"⟩, 2) := ⟨⟨by decide +kernel, by decide +kernel⟩, List.mem_of_getElem? (i := 70) (by decide +kernel), List.mem_of_getElem? (i := 549) (by decide +kernel), List.mem_of_getElem? (i := 550) (by decide +kernel)⟩
theorem lw_p7 : lw_okq (⟨"LockOrchestra$HallReader", "readDoor", "(LLockOrchestra$Hall;)V"⟩, 2) := ⟨⟨by decide +kernel, by decide +kernel⟩, List.mem_of_getElem? (i := 70) (by decide +kernel), List.mem_of_getElem? (i := 559) (by decide +kernel), List.mem_of_getElem? (i := 560) (by decide +kernel)⟩
theorem lw_p8 : lw_okq (⟨"LockOrchestra$TestReader", "readBoth", "(LLockOrchestra$Code;I)V"⟩, 2) := ⟨⟨by decide +kernel, by decide +kernel⟩, List.mem_of_getElem? (i := 76) (by decide +kernel), List.mem_of_getElem? (i := 576) (by decide +kernel), List.mem_of_getElem? (i := 577) (by decide +kernel)⟩
theorem lw_p9 : lw_okq (⟨"LockOrchestra$TestReader", "readFact", "(LLockOrchestra$Code;I)V"⟩, 2) := ⟨⟨by decide +kernel, by decide +kernel⟩, List.mem_of_getElem? (i := 76) (by decide +kernel), List.mem_of_getElem? (i := 580) (by decide +kernel), List.mem_of_getElem? (i := 581) (by decide +kernel)⟩
theorem lw_p10 : lw_okq (⟨"LockOrchestra$TestReader", "opensOneMore", "(I)Z"⟩, 2) := ⟨⟨by decide +kernel, by decide +kernel⟩, List.mem_of_getElem? (i := 76) (by decide +kernel), List.mem_of_getElem? (i := 586) (by decide +kernel), List.mem_of_getElem? (i := 587) (by decide +kernel)⟩
theorem lw_p11 : lw_okq (⟨"LockOrchestra$TestReader", "readProduct", "(LLockOrchestra$Code;I)V"⟩, 2) := ⟨⟨by decide +kernel, by decide +kernel⟩, List.mem_of_getElem? (i := 76) (by decide +kernel), List.mem_of_getElem? (i := 613) (by decide +kernel), List.mem_of_getElem? (i := 614) (by decide +kernel)⟩
theorem lw_p12 : lw_okq (⟨"LockOrchestra$TestReader", "readPart", "(LLockOrchestra$Code;I)V"⟩, 2) := ⟨⟨by decide +kernel, by decide +kernel⟩, List.mem_of_getElem? (i := 76) (by decide +kernel), List.mem_of_getElem? (i := 617) (by decide +kernel), List.mem_of_getElem? (i := 618) (by decide +kernel)⟩
theorem lw_p13 : lw_okq (⟨"LockOrchestra$TestReader", "readPair", "(LLockOrchestra$Code;II)V"⟩, 2) := ⟨⟨by decide +kernel, by decide +kernel⟩, List.mem_of_getElem? (i := 76) (by decide +kernel), List.mem_of_getElem? (i := 627) (by decide +kernel), List.mem_of_getElem? (i := 628) (by decide +kernel)⟩
theorem lw_p14 : lw_okq (⟨"LockOrchestra$TestReader", "readPartOf", "(LLockOrchestra$Code;II)V"⟩, 2) := ⟨⟨by decide +kernel, by decide +kernel⟩, List.mem_of_getElem? (i := 76) (by decide +kernel), List.mem_of_getElem? (i := 633) (by decide +kernel), List.mem_of_getElem? (i := 634) (by decide +kernel)⟩
theorem lw_p15 : lw_okq (⟨"LockOrchestra$TestReader", "leafHere", "()I"⟩, 2) := ⟨⟨by decide +kernel, by decide +kernel⟩, List.mem_of_getElem? (i := 76) (by decide +kernel), List.mem_of_getElem? (i := 638) (by decide +kernel), List.mem_of_getElem? (i := 639) (by decide +kernel)⟩
def lw_privs_1 : List (MethodName × Nat) := [(⟨"LockOrchestra", "refuse", "(I)I"⟩, 18), (⟨"LockOrchestra$Tape", "addByte", "(I)V"⟩, 2), (⟨"LockOrchestra$HallReader", "readLock", "(LLockOrchestra$Hall;)V"⟩, 2), (⟨"LockOrchestra$HallReader", "readNew", "(LLockOrchestra$Hall;I)I"⟩, 2), (⟨"LockOrchestra$Words", "isOwnWord", "()Z"⟩, 6), (⟨"LockOrchestra$HallReader", "readNote", "(LLockOrchestra$Hall;)V"⟩, 2), (⟨"LockOrchestra$HallReader", "readKnown", "(LLockOrchestra$Hall;II)I"⟩, 2), (⟨"LockOrchestra$HallReader", "readDoor", "(LLockOrchestra$Hall;)V"⟩, 2), (⟨"LockOrchestra$TestReader", "readBoth", "(LLockOrchestra$Code;I)V"⟩, 2), (⟨"LockOrchestra$TestReader", "readFact", "(LLockOrchestra$Code;I)V"⟩, 2), (⟨"LockOrchestra$TestReader", "opensOneMore", "(I)Z"⟩, 2), (⟨"LockOrchestra$TestReader", "readProduct", "(LLockOrchestra$Code;I)V"⟩, 2), (⟨"LockOrchestra$TestReader", "readPart", "(LLockOrchestra$Code;I)V"⟩, 2), (⟨"LockOrchestra$TestReader", "readPair", "(LLockOrchestra$Code;II)V"⟩, 2), (⟨"LockOrchestra$TestReader", "readPartOf", "(LLockOrchestra$Code;II)V"⟩, 2), (⟨"LockOrchestra$TestReader", "leafHere", "()I"⟩, 2)]
theorem lw_r1 : ∀ q ∈ lw_privs_1, lw_okq q := List.forall_mem_cons.mpr ⟨lw_p0, List.forall_mem_cons.mpr ⟨lw_p1, List.forall_mem_cons.mpr ⟨lw_p2, List.forall_mem_cons.mpr ⟨lw_p3, List.forall_mem_cons.mpr ⟨lw_p4, List.forall_mem_cons.mpr ⟨lw_p5, List.forall_mem_cons.mpr ⟨lw_p6, List.forall_mem_cons.mpr ⟨lw_p7, List.forall_mem_cons.mpr ⟨lw_p8, List.forall_mem_cons.mpr ⟨lw_p9, List.forall_mem_cons.mpr ⟨lw_p10, List.forall_mem_cons.mpr ⟨lw_p11, List.forall_mem_cons.mpr ⟨lw_p12, List.forall_mem_cons.mpr ⟨lw_p13, List.forall_mem_cons.mpr ⟨lw_p14, List.forall_mem_cons.mpr ⟨lw_p15, fun _ h => absurd h List.not_mem_nil⟩⟩⟩⟩⟩⟩⟩⟩⟩⟩⟩⟩⟩⟩⟩⟩
theorem lw_p16 : lw_okq (⟨"LockOrchestra$TestReader", "takeEither", "(CICI)I"⟩, 2) := ⟨⟨by decide +kernel, by decide +kernel⟩, List.mem_of_getElem? (i := 76) (by decide +kernel), List.mem_of_getElem? (i := 647) (by decide +kernel), List.mem_of_getElem? (i := 648) (by decide +kernel)⟩
theorem lw_p17 : lw_okq (⟨"LockOrchestra$TestReader", "takeComparison", "()I"⟩, 2) := ⟨⟨by decide +kernel, by decide +kernel⟩, List.mem_of_getElem? (i := 76) (by decide +kernel), List.mem_of_getElem? (i := 651) (by decide +kernel), List.mem_of_getElem? (i := 652) (by decide +kernel)⟩
theorem lw_p18 : lw_okq (⟨"LockOrchestra$HallReader", "readPlayer", "(LLockOrchestra$Hall;)V"⟩, 2) := ⟨⟨by decide +kernel, by decide +kernel⟩, List.mem_of_getElem? (i := 70) (by decide +kernel), List.mem_of_getElem? (i := 662) (by decide +kernel), List.mem_of_getElem? (i := 663) (by decide +kernel)⟩
theorem lw_p19 : lw_okq (⟨"LockOrchestra$Code", "push", "(I)V"⟩, 4) := ⟨⟨by decide +kernel, by decide +kernel⟩, List.mem_of_getElem? (i := 102) (by decide +kernel), List.mem_of_getElem? (i := 731) (by decide +kernel), List.mem_of_getElem? (i := 732) (by decide +kernel)⟩
theorem lw_p20 : lw_okq (⟨"LockOrchestra$Code", "pop", "()I"⟩, 4) := ⟨⟨by decide +kernel, by decide +kernel⟩, List.mem_of_getElem? (i := 102) (by decide +kernel), List.mem_of_getElem? (i := 758) (by decide +kernel), List.mem_of_getElem? (i := 759) (by decide +kernel)⟩
theorem lw_p21 : lw_okq (⟨"LockOrchestra$Search", "reach", "(III)V"⟩, 7) := ⟨⟨by decide +kernel, by decide +kernel⟩, List.mem_of_getElem? (i := 136) (by decide +kernel), List.mem_of_getElem? (i := 925) (by decide +kernel), List.mem_of_getElem? (i := 926) (by decide +kernel)⟩
theorem lw_p22 : lw_okq (⟨"LockOrchestra$Search", "isSought", "(LLockOrchestra$Hall;I)Z"⟩, 7) := ⟨⟨by decide +kernel, by decide +kernel⟩, List.mem_of_getElem? (i := 136) (by decide +kernel), List.mem_of_getElem? (i := 931) (by decide +kernel), List.mem_of_getElem? (i := 932) (by decide +kernel)⟩
theorem lw_p23 : lw_okq (⟨"LockOrchestra$Search", "lengthTo", "(I)I"⟩, 7) := ⟨⟨by decide +kernel, by decide +kernel⟩, List.mem_of_getElem? (i := 136) (by decide +kernel), List.mem_of_getElem? (i := 943) (by decide +kernel), List.mem_of_getElem? (i := 944) (by decide +kernel)⟩
theorem lw_p24 : lw_okq (⟨"LockOrchestra", "endsWith", "(III)Z"⟩, 18) := ⟨⟨by decide +kernel, by decide +kernel⟩, List.mem_of_getElem? (i := 23) (by decide +kernel), List.mem_of_getElem? (i := 997) (by decide +kernel), List.mem_of_getElem? (i := 998) (by decide +kernel)⟩
theorem lw_p25 : lw_okq (⟨"LockOrchestra", "keepFirstSlip", "(II)V"⟩, 18) := ⟨⟨by decide +kernel, by decide +kernel⟩, List.mem_of_getElem? (i := 23) (by decide +kernel), List.mem_of_getElem? (i := 1007) (by decide +kernel), List.mem_of_getElem? (i := 1008) (by decide +kernel)⟩
theorem lw_p26 : lw_okq (⟨"LockOrchestra$Story", "pastRow", "(I)[I"⟩, 4) := ⟨⟨by decide +kernel, by decide +kernel⟩, List.mem_of_getElem? (i := 193) (by decide +kernel), List.mem_of_getElem? (i := 1058) (by decide +kernel), List.mem_of_getElem? (i := 1059) (by decide +kernel)⟩
theorem lw_p27 : lw_okq (⟨"LockOrchestra", "playOne", "(I)V"⟩, 18) := ⟨⟨by decide +kernel, by decide +kernel⟩, List.mem_of_getElem? (i := 23) (by decide +kernel), List.mem_of_getElem? (i := 1065) (by decide +kernel), List.mem_of_getElem? (i := 1066) (by decide +kernel)⟩
theorem lw_p28 : lw_okq (⟨"LockOrchestra$Story", "keepOne", "(I)V"⟩, 4) := ⟨⟨by decide +kernel, by decide +kernel⟩, List.mem_of_getElem? (i := 193) (by decide +kernel), List.mem_of_getElem? (i := 1083) (by decide +kernel), List.mem_of_getElem? (i := 1084) (by decide +kernel)⟩
theorem lw_p29 : lw_okq (⟨"LockOrchestra", "draw", "(I)I"⟩, 18) := ⟨⟨by decide +kernel, by decide +kernel⟩, List.mem_of_getElem? (i := 23) (by decide +kernel), List.mem_of_getElem? (i := 1106) (by decide +kernel), List.mem_of_getElem? (i := 1107) (by decide +kernel)⟩
theorem lw_p30 : lw_okq (⟨"LockOrchestra$Question", "takeAsked", "()I"⟩, 4) := ⟨⟨by decide +kernel, by decide +kernel⟩, List.mem_of_getElem? (i := 96) (by decide +kernel), List.mem_of_getElem? (i := 1137) (by decide +kernel), List.mem_of_getElem? (i := 1138) (by decide +kernel)⟩
theorem lw_p31 : lw_okq (⟨"LockOrchestra$Question", "withLock", "(JII)J"⟩, 4) := ⟨⟨by decide +kernel, by decide +kernel⟩, List.mem_of_getElem? (i := 96) (by decide +kernel), List.mem_of_getElem? (i := 1161) (by decide +kernel), List.mem_of_getElem? (i := 1162) (by decide +kernel)⟩
def lw_privs_2 : List (MethodName × Nat) := [(⟨"LockOrchestra$TestReader", "takeEither", "(CICI)I"⟩, 2), (⟨"LockOrchestra$TestReader", "takeComparison", "()I"⟩, 2), (⟨"LockOrchestra$HallReader", "readPlayer", "(LLockOrchestra$Hall;)V"⟩, 2), (⟨"LockOrchestra$Code", "push", "(I)V"⟩, 4), (⟨"LockOrchestra$Code", "pop", "()I"⟩, 4), (⟨"LockOrchestra$Search", "reach", "(III)V"⟩, 7), (⟨"LockOrchestra$Search", "isSought", "(LLockOrchestra$Hall;I)Z"⟩, 7), (⟨"LockOrchestra$Search", "lengthTo", "(I)I"⟩, 7), (⟨"LockOrchestra", "endsWith", "(III)Z"⟩, 18), (⟨"LockOrchestra", "keepFirstSlip", "(II)V"⟩, 18), (⟨"LockOrchestra$Story", "pastRow", "(I)[I"⟩, 4), (⟨"LockOrchestra", "playOne", "(I)V"⟩, 18), (⟨"LockOrchestra$Story", "keepOne", "(I)V"⟩, 4), (⟨"LockOrchestra", "draw", "(I)I"⟩, 18), (⟨"LockOrchestra$Question", "takeAsked", "()I"⟩, 4), (⟨"LockOrchestra$Question", "withLock", "(JII)J"⟩, 4)]
theorem lw_r2 : ∀ q ∈ lw_privs_2, lw_okq q := List.forall_mem_cons.mpr ⟨lw_p16, List.forall_mem_cons.mpr ⟨lw_p17, List.forall_mem_cons.mpr ⟨lw_p18, List.forall_mem_cons.mpr ⟨lw_p19, List.forall_mem_cons.mpr ⟨lw_p20, List.forall_mem_cons.mpr ⟨lw_p21, List.forall_mem_cons.mpr ⟨lw_p22, List.forall_mem_cons.mpr ⟨lw_p23, List.forall_mem_cons.mpr ⟨lw_p24, List.forall_mem_cons.mpr ⟨lw_p25, List.forall_mem_cons.mpr ⟨lw_p26, List.forall_mem_cons.mpr ⟨lw_p27, List.forall_mem_cons.mpr ⟨lw_p28, List.forall_mem_cons.mpr ⟨lw_p29, List.forall_mem_cons.mpr ⟨lw_p30, List.forall_mem_cons.mpr ⟨lw_p31, fun _ h => absurd h List.not_mem_nil⟩⟩⟩⟩⟩⟩⟩⟩⟩⟩⟩⟩⟩⟩⟩⟩
theorem lw_p32 : lw_okq (⟨"LockOrchestra", "imagedState", "()I"⟩, 18) := ⟨⟨by decide +kernel, by decide +kernel⟩, List.mem_of_getElem? (i := 23) (by decide +kernel), List.mem_of_getElem? (i := 1183) (by decide +kernel), List.mem_of_getElem? (i := 1184) (by decide +kernel)⟩
theorem lw_p33 : lw_okq (⟨"LockOrchestraModel", "look", "()I"⟩, 95) := ⟨⟨by decide +kernel, by decide +kernel⟩, List.mem_of_getElem? (i := 1192) (by decide +kernel), List.mem_of_getElem? (i := 1498) (by decide +kernel), List.mem_of_getElem? (i := 1499) (by decide +kernel)⟩
theorem lw_p34 : lw_okq (⟨"LockOrchestraModel", "statementTold", "()V"⟩, 95) := ⟨⟨by decide +kernel, by decide +kernel⟩, List.mem_of_getElem? (i := 1192) (by decide +kernel), List.mem_of_getElem? (i := 1502) (by decide +kernel), List.mem_of_getElem? (i := 1503) (by decide +kernel)⟩
theorem lw_p35 : lw_okq (⟨"LockOrchestraModel", "fail", "(II)V"⟩, 95) := ⟨⟨by decide +kernel, by decide +kernel⟩, List.mem_of_getElem? (i := 1192) (by decide +kernel), List.mem_of_getElem? (i := 1506) (by decide +kernel), List.mem_of_getElem? (i := 1507) (by decide +kernel)⟩
theorem lw_p36 : lw_okq (⟨"LockOrchestraModel", "takes", "([C)Z"⟩, 95) := ⟨⟨by decide +kernel, by decide +kernel⟩, List.mem_of_getElem? (i := 1192) (by decide +kernel), List.mem_of_getElem? (i := 1510) (by decide +kernel), List.mem_of_getElem? (i := 1511) (by decide +kernel)⟩
theorem lw_p37 : lw_okq (⟨"LockOrchestraModel", "isHere", "([C)Z"⟩, 95) := ⟨⟨by decide +kernel, by decide +kernel⟩, List.mem_of_getElem? (i := 1192) (by decide +kernel), List.mem_of_getElem? (i := 1514) (by decide +kernel), List.mem_of_getElem? (i := 1515) (by decide +kernel)⟩
theorem lw_p38 : lw_okq (⟨"LockOrchestraModel", "lockTold", "(I)V"⟩, 95) := ⟨⟨by decide +kernel, by decide +kernel⟩, List.mem_of_getElem? (i := 1192) (by decide +kernel), List.mem_of_getElem? (i := 1521) (by decide +kernel), List.mem_of_getElem? (i := 1522) (by decide +kernel)⟩
theorem lw_p39 : lw_okq (⟨"LockOrchestraModel", "isFull", "(III)Z"⟩, 95) := ⟨⟨by decide +kernel, by decide +kernel⟩, List.mem_of_getElem? (i := 1192) (by decide +kernel), List.mem_of_getElem? (i := 1525) (by decide +kernel), List.mem_of_getElem? (i := 1526) (by decide +kernel)⟩
theorem lw_p40 : lw_okq (⟨"LockOrchestraModel", "newName", "()J"⟩, 95) := ⟨⟨by decide +kernel, by decide +kernel⟩, List.mem_of_getElem? (i := 1192) (by decide +kernel), List.mem_of_getElem? (i := 1529) (by decide +kernel), List.mem_of_getElem? (i := 1530) (by decide +kernel)⟩
theorem lw_p41 : lw_okq (⟨"LockOrchestraModel", "name", "()J"⟩, 95) := ⟨⟨by decide +kernel, by decide +kernel⟩, List.mem_of_getElem? (i := 1192) (by decide +kernel), List.mem_of_getElem? (i := 1533) (by decide +kernel), List.mem_of_getElem? (i := 1534) (by decide +kernel)⟩
theorem lw_p42 : lw_okq (⟨"LockOrchestraModel", "isOwnHere", "()Z"⟩, 95) := ⟨⟨by decide +kernel, by decide +kernel⟩, List.mem_of_getElem? (i := 1192) (by decide +kernel), List.mem_of_getElem? (i := 1537) (by decide +kernel), List.mem_of_getElem? (i := 1538) (by decide +kernel)⟩
theorem lw_p43 : lw_okq (⟨"LockOrchestraModel", "nameOf", "(IJ)I"⟩, 95) := ⟨⟨by decide +kernel, by decide +kernel⟩, List.mem_of_getElem? (i := 1192) (by decide +kernel), List.mem_of_getElem? (i := 1543) (by decide +kernel), List.mem_of_getElem? (i := 1544) (by decide +kernel)⟩
theorem lw_p44 : lw_okq (⟨"LockOrchestraModel", "asks", "([C)V"⟩, 95) := ⟨⟨by decide +kernel, by decide +kernel⟩, List.mem_of_getElem? (i := 1192) (by decide +kernel), List.mem_of_getElem? (i := 1547) (by decide +kernel), List.mem_of_getElem? (i := 1548) (by decide +kernel)⟩
theorem lw_p45 : lw_okq (⟨"LockOrchestraModel", "number", "(II)I"⟩, 95) := ⟨⟨by decide +kernel, by decide +kernel⟩, List.mem_of_getElem? (i := 1192) (by decide +kernel), List.mem_of_getElem? (i := 1551) (by decide +kernel), List.mem_of_getElem? (i := 1552) (by decide +kernel)⟩
theorem lw_p46 : lw_okq (⟨"LockOrchestraModel", "noteTold", "(I)V"⟩, 95) := ⟨⟨by decide +kernel, by decide +kernel⟩, List.mem_of_getElem? (i := 1192) (by decide +kernel), List.mem_of_getElem? (i := 1561) (by decide +kernel), List.mem_of_getElem? (i := 1562) (by decide +kernel)⟩
theorem lw_p47 : lw_okq (⟨"LockOrchestraModel", "oneOf", "(II)I"⟩, 95) := ⟨⟨by decide +kernel, by decide +kernel⟩, List.mem_of_getElem? (i := 1192) (by decide +kernel), List.mem_of_getElem? (i := 1565) (by decide +kernel), List.mem_of_getElem? (i := 1566) (by decide +kernel)⟩
def lw_privs_3 : List (MethodName × Nat) := [(⟨"LockOrchestra", "imagedState", "()I"⟩, 18), (⟨"LockOrchestraModel", "look", "()I"⟩, 95), (⟨"LockOrchestraModel", "statementTold", "()V"⟩, 95), (⟨"LockOrchestraModel", "fail", "(II)V"⟩, 95), (⟨"LockOrchestraModel", "takes", "([C)Z"⟩, 95), (⟨"LockOrchestraModel", "isHere", "([C)Z"⟩, 95), (⟨"LockOrchestraModel", "lockTold", "(I)V"⟩, 95), (⟨"LockOrchestraModel", "isFull", "(III)Z"⟩, 95), (⟨"LockOrchestraModel", "newName", "()J"⟩, 95), (⟨"LockOrchestraModel", "name", "()J"⟩, 95), (⟨"LockOrchestraModel", "isOwnHere", "()Z"⟩, 95), (⟨"LockOrchestraModel", "nameOf", "(IJ)I"⟩, 95), (⟨"LockOrchestraModel", "asks", "([C)V"⟩, 95), (⟨"LockOrchestraModel", "number", "(II)I"⟩, 95), (⟨"LockOrchestraModel", "noteTold", "(I)V"⟩, 95), (⟨"LockOrchestraModel", "oneOf", "(II)I"⟩, 95)]
theorem lw_r3 : ∀ q ∈ lw_privs_3, lw_okq q := List.forall_mem_cons.mpr ⟨lw_p32, List.forall_mem_cons.mpr ⟨lw_p33, List.forall_mem_cons.mpr ⟨lw_p34, List.forall_mem_cons.mpr ⟨lw_p35, List.forall_mem_cons.mpr ⟨lw_p36, List.forall_mem_cons.mpr ⟨lw_p37, List.forall_mem_cons.mpr ⟨lw_p38, List.forall_mem_cons.mpr ⟨lw_p39, List.forall_mem_cons.mpr ⟨lw_p40, List.forall_mem_cons.mpr ⟨lw_p41, List.forall_mem_cons.mpr ⟨lw_p42, List.forall_mem_cons.mpr ⟨lw_p43, List.forall_mem_cons.mpr ⟨lw_p44, List.forall_mem_cons.mpr ⟨lw_p45, List.forall_mem_cons.mpr ⟨lw_p46, List.forall_mem_cons.mpr ⟨lw_p47, fun _ h => absurd h List.not_mem_nil⟩⟩⟩⟩⟩⟩⟩⟩⟩⟩⟩⟩⟩⟩⟩⟩
theorem lw_p48 : lw_okq (⟨"LockOrchestraModel", "doorTold", "(I)V"⟩, 95) := ⟨⟨by decide +kernel, by decide +kernel⟩, List.mem_of_getElem? (i := 1192) (by decide +kernel), List.mem_of_getElem? (i := 1569) (by decide +kernel), List.mem_of_getElem? (i := 1570) (by decide +kernel)⟩
theorem lw_p49 : lw_okq (⟨"LockOrchestraModel", "qTest", "()V"⟩, 95) := ⟨⟨by decide +kernel, by decide +kernel⟩, List.mem_of_getElem? (i := 1192) (by decide +kernel), List.mem_of_getElem? (i := 1573) (by decide +kernel), List.mem_of_getElem? (i := 1574) (by decide +kernel)⟩
theorem lw_p50 : lw_okq (⟨"LockOrchestraModel", "qOpens", "(II)V"⟩, 95) := ⟨⟨by decide +kernel, by decide +kernel⟩, List.mem_of_getElem? (i := 1192) (by decide +kernel), List.mem_of_getElem? (i := 1577) (by decide +kernel), List.mem_of_getElem? (i := 1578) (by decide +kernel)⟩
theorem lw_p51 : lw_okq (⟨"LockOrchestraModel", "qFact", "()V"⟩, 95) := ⟨⟨by decide +kernel, by decide +kernel⟩, List.mem_of_getElem? (i := 1192) (by decide +kernel), List.mem_of_getElem? (i := 1581) (by decide +kernel), List.mem_of_getElem? (i := 1582) (by decide +kernel)⟩
theorem lw_p52 : lw_okq (⟨"LockOrchestraModel", "qCode", "(I)V"⟩, 95) := ⟨⟨by decide +kernel, by decide +kernel⟩, List.mem_of_getElem? (i := 1192) (by decide +kernel), List.mem_of_getElem? (i := 1585) (by decide +kernel), List.mem_of_getElem? (i := 1586) (by decide +kernel)⟩
theorem lw_p53 : lw_okq (⟨"LockOrchestraModel", "qSums", "()V"⟩, 95) := ⟨⟨by decide +kernel, by decide +kernel⟩, List.mem_of_getElem? (i := 1192) (by decide +kernel), List.mem_of_getElem? (i := 1589) (by decide +kernel), List.mem_of_getElem? (i := 1590) (by decide +kernel)⟩
theorem lw_p54 : lw_okq (⟨"LockOrchestraModel", "qPartTold", "()V"⟩, 95) := ⟨⟨by decide +kernel, by decide +kernel⟩, List.mem_of_getElem? (i := 1192) (by decide +kernel), List.mem_of_getElem? (i := 1593) (by decide +kernel), List.mem_of_getElem? (i := 1594) (by decide +kernel)⟩
theorem lw_p55 : lw_okq (⟨"LockOrchestraModel", "qWordOf", "(II)I"⟩, 95) := ⟨⟨by decide +kernel, by decide +kernel⟩, List.mem_of_getElem? (i := 1192) (by decide +kernel), List.mem_of_getElem? (i := 1597) (by decide +kernel), List.mem_of_getElem? (i := 1598) (by decide +kernel)⟩
theorem lw_p56 : lw_okq (⟨"LockOrchestraModel", "qWordHere", "()I"⟩, 95) := ⟨⟨by decide +kernel, by decide +kernel⟩, List.mem_of_getElem? (i := 1192) (by decide +kernel), List.mem_of_getElem? (i := 1601) (by decide +kernel), List.mem_of_getElem? (i := 1602) (by decide +kernel)⟩
theorem lw_p57 : lw_okq (⟨"LockOrchestraModel", "isAllowed", "(I)Z"⟩, 95) := ⟨⟨by decide +kernel, by decide +kernel⟩, List.mem_of_getElem? (i := 1192) (by decide +kernel), List.mem_of_getElem? (i := 1605) (by decide +kernel), List.mem_of_getElem? (i := 1606) (by decide +kernel)⟩
theorem lw_p58 : lw_okq (⟨"LockOrchestraModel", "asksSign", "(I)V"⟩, 95) := ⟨⟨by decide +kernel, by decide +kernel⟩, List.mem_of_getElem? (i := 1192) (by decide +kernel), List.mem_of_getElem? (i := 1609) (by decide +kernel), List.mem_of_getElem? (i := 1610) (by decide +kernel)⟩
theorem lw_p59 : lw_okq (⟨"LockOrchestraModel", "takesSign", "(I)Z"⟩, 95) := ⟨⟨by decide +kernel, by decide +kernel⟩, List.mem_of_getElem? (i := 1192) (by decide +kernel), List.mem_of_getElem? (i := 1613) (by decide +kernel), List.mem_of_getElem? (i := 1614) (by decide +kernel)⟩
theorem lw_p60 : lw_okq (⟨"LockOrchestraModel", "qAsksWord", "(I)V"⟩, 95) := ⟨⟨by decide +kernel, by decide +kernel⟩, List.mem_of_getElem? (i := 1192) (by decide +kernel), List.mem_of_getElem? (i := 1617) (by decide +kernel), List.mem_of_getElem? (i := 1618) (by decide +kernel)⟩
theorem lw_p61 : lw_okq (⟨"LockOrchestraModel", "qEndsPart", "()V"⟩, 95) := ⟨⟨by decide +kernel, by decide +kernel⟩, List.mem_of_getElem? (i := 1192) (by decide +kernel), List.mem_of_getElem? (i := 1621) (by decide +kernel), List.mem_of_getElem? (i := 1622) (by decide +kernel)⟩
theorem lw_p62 : lw_okq (⟨"LockOrchestraModel", "qDrops", "()V"⟩, 95) := ⟨⟨by decide +kernel, by decide +kernel⟩, List.mem_of_getElem? (i := 1192) (by decide +kernel), List.mem_of_getElem? (i := 1625) (by decide +kernel), List.mem_of_getElem? (i := 1626) (by decide +kernel)⟩
theorem lw_p63 : lw_okq (⟨"LockOrchestraModel", "qGoesOn", "()Z"⟩, 95) := ⟨⟨by decide +kernel, by decide +kernel⟩, List.mem_of_getElem? (i := 1192) (by decide +kernel), List.mem_of_getElem? (i := 1629) (by decide +kernel), List.mem_of_getElem? (i := 1630) (by decide +kernel)⟩
def lw_privs_4 : List (MethodName × Nat) := [(⟨"LockOrchestraModel", "doorTold", "(I)V"⟩, 95), (⟨"LockOrchestraModel", "qTest", "()V"⟩, 95), (⟨"LockOrchestraModel", "qOpens", "(II)V"⟩, 95), (⟨"LockOrchestraModel", "qFact", "()V"⟩, 95), (⟨"LockOrchestraModel", "qCode", "(I)V"⟩, 95), (⟨"LockOrchestraModel", "qSums", "()V"⟩, 95), (⟨"LockOrchestraModel", "qPartTold", "()V"⟩, 95), (⟨"LockOrchestraModel", "qWordOf", "(II)I"⟩, 95), (⟨"LockOrchestraModel", "qWordHere", "()I"⟩, 95), (⟨"LockOrchestraModel", "isAllowed", "(I)Z"⟩, 95), (⟨"LockOrchestraModel", "asksSign", "(I)V"⟩, 95), (⟨"LockOrchestraModel", "takesSign", "(I)Z"⟩, 95), (⟨"LockOrchestraModel", "qAsksWord", "(I)V"⟩, 95), (⟨"LockOrchestraModel", "qEndsPart", "()V"⟩, 95), (⟨"LockOrchestraModel", "qDrops", "()V"⟩, 95), (⟨"LockOrchestraModel", "qGoesOn", "()Z"⟩, 95)]
theorem lw_r4 : ∀ q ∈ lw_privs_4, lw_okq q := List.forall_mem_cons.mpr ⟨lw_p48, List.forall_mem_cons.mpr ⟨lw_p49, List.forall_mem_cons.mpr ⟨lw_p50, List.forall_mem_cons.mpr ⟨lw_p51, List.forall_mem_cons.mpr ⟨lw_p52, List.forall_mem_cons.mpr ⟨lw_p53, List.forall_mem_cons.mpr ⟨lw_p54, List.forall_mem_cons.mpr ⟨lw_p55, List.forall_mem_cons.mpr ⟨lw_p56, List.forall_mem_cons.mpr ⟨lw_p57, List.forall_mem_cons.mpr ⟨lw_p58, List.forall_mem_cons.mpr ⟨lw_p59, List.forall_mem_cons.mpr ⟨lw_p60, List.forall_mem_cons.mpr ⟨lw_p61, List.forall_mem_cons.mpr ⟨lw_p62, List.forall_mem_cons.mpr ⟨lw_p63, fun _ h => absurd h List.not_mem_nil⟩⟩⟩⟩⟩⟩⟩⟩⟩⟩⟩⟩⟩⟩⟩⟩
theorem lw_p64 : lw_okq (⟨"LockOrchestraModel", "qBracket", "()I"⟩, 95) := ⟨⟨by decide +kernel, by decide +kernel⟩, List.mem_of_getElem? (i := 1192) (by decide +kernel), List.mem_of_getElem? (i := 1633) (by decide +kernel), List.mem_of_getElem? (i := 1634) (by decide +kernel)⟩
theorem lw_p65 : lw_okq (⟨"LockOrchestraModel", "qDropsToBracket", "()V"⟩, 95) := ⟨⟨by decide +kernel, by decide +kernel⟩, List.mem_of_getElem? (i := 1192) (by decide +kernel), List.mem_of_getElem? (i := 1640) (by decide +kernel), List.mem_of_getElem? (i := 1641) (by decide +kernel)⟩
theorem lw_p66 : lw_okq (⟨"LockOrchestraModel", "qIsOn", "(I)Z"⟩, 95) := ⟨⟨by decide +kernel, by decide +kernel⟩, List.mem_of_getElem? (i := 1192) (by decide +kernel), List.mem_of_getElem? (i := 1644) (by decide +kernel), List.mem_of_getElem? (i := 1645) (by decide +kernel)⟩
theorem lw_p67 : lw_okq (⟨"LockOrchestraModel", "qDropsNots", "()V"⟩, 95) := ⟨⟨by decide +kernel, by decide +kernel⟩, List.mem_of_getElem? (i := 1192) (by decide +kernel), List.mem_of_getElem? (i := 1648) (by decide +kernel), List.mem_of_getElem? (i := 1649) (by decide +kernel)⟩
theorem lw_p68 : lw_okq (⟨"LockOrchestraModel", "qGoesOnTest", "()Z"⟩, 95) := ⟨⟨by decide +kernel, by decide +kernel⟩, List.mem_of_getElem? (i := 1192) (by decide +kernel), List.mem_of_getElem? (i := 1652) (by decide +kernel), List.mem_of_getElem? (i := 1653) (by decide +kernel)⟩
theorem lw_p69 : lw_okq (⟨"LockOrchestraModel", "qHasSquare", "()Z"⟩, 95) := ⟨⟨by decide +kernel, by decide +kernel⟩, List.mem_of_getElem? (i := 1192) (by decide +kernel), List.mem_of_getElem? (i := 1656) (by decide +kernel), List.mem_of_getElem? (i := 1657) (by decide +kernel)⟩
theorem lw_p70 : lw_okq (⟨"LockOrchestraModel", "playerTold", "(I)V"⟩, 95) := ⟨⟨by decide +kernel, by decide +kernel⟩, List.mem_of_getElem? (i := 1192) (by decide +kernel), List.mem_of_getElem? (i := 1660) (by decide +kernel), List.mem_of_getElem? (i := 1661) (by decide +kernel)⟩
theorem lw_p71 : lw_okq (⟨"LockOrchestraModel", "stands", "()V"⟩, 95) := ⟨⟨by decide +kernel, by decide +kernel⟩, List.mem_of_getElem? (i := 1192) (by decide +kernel), List.mem_of_getElem? (i := 1664) (by decide +kernel), List.mem_of_getElem? (i := 1665) (by decide +kernel)⟩
theorem lw_p72 : lw_okq (⟨"LockOrchestraModel", "jammedNow", "()I"⟩, 95) := ⟨⟨by decide +kernel, by decide +kernel⟩, List.mem_of_getElem? (i := 1192) (by decide +kernel), List.mem_of_getElem? (i := 1676) (by decide +kernel), List.mem_of_getElem? (i := 1677) (by decide +kernel)⟩
theorem lw_p73 : lw_okq (⟨"LockOrchestraModel", "openNow", "()I"⟩, 95) := ⟨⟨by decide +kernel, by decide +kernel⟩, List.mem_of_getElem? (i := 1192) (by decide +kernel), List.mem_of_getElem? (i := 1680) (by decide +kernel), List.mem_of_getElem? (i := 1681) (by decide +kernel)⟩
theorem lw_p74 : lw_okq (⟨"LockOrchestraModel", "doorMany", "()I"⟩, 95) := ⟨⟨by decide +kernel, by decide +kernel⟩, List.mem_of_getElem? (i := 1192) (by decide +kernel), List.mem_of_getElem? (i := 1684) (by decide +kernel), List.mem_of_getElem? (i := 1685) (by decide +kernel)⟩
theorem lw_p75 : lw_okq (⟨"LockOrchestraModel", "isOpen", "(I)Z"⟩, 95) := ⟨⟨by decide +kernel, by decide +kernel⟩, List.mem_of_getElem? (i := 1192) (by decide +kernel), List.mem_of_getElem? (i := 1688) (by decide +kernel), List.mem_of_getElem? (i := 1689) (by decide +kernel)⟩
theorem lw_p76 : lw_okq (⟨"LockOrchestraModel", "qPuts", "(J)V"⟩, 95) := ⟨⟨by decide +kernel, by decide +kernel⟩, List.mem_of_getElem? (i := 1192) (by decide +kernel), List.mem_of_getElem? (i := 1692) (by decide +kernel), List.mem_of_getElem? (i := 1693) (by decide +kernel)⟩
theorem lw_p77 : lw_okq (⟨"LockOrchestraModel", "qOf", "(IJI)J"⟩, 95) := ⟨⟨by decide +kernel, by decide +kernel⟩, List.mem_of_getElem? (i := 1192) (by decide +kernel), List.mem_of_getElem? (i := 1696) (by decide +kernel), List.mem_of_getElem? (i := 1697) (by decide +kernel)⟩
theorem lw_p78 : lw_okq (⟨"LockOrchestraModel", "lockMany", "()I"⟩, 95) := ⟨⟨by decide +kernel, by decide +kernel⟩, List.mem_of_getElem? (i := 1192) (by decide +kernel), List.mem_of_getElem? (i := 1700) (by decide +kernel), List.mem_of_getElem? (i := 1701) (by decide +kernel)⟩
theorem lw_p79 : lw_okq (⟨"LockOrchestraModel", "wardNow", "(I)I"⟩, 95) := ⟨⟨by decide +kernel, by decide +kernel⟩, List.mem_of_getElem? (i := 1192) (by decide +kernel), List.mem_of_getElem? (i := 1704) (by decide +kernel), List.mem_of_getElem? (i := 1705) (by decide +kernel)⟩
def lw_privs_5 : List (MethodName × Nat) := [(⟨"LockOrchestraModel", "qBracket", "()I"⟩, 95), (⟨"LockOrchestraModel", "qDropsToBracket", "()V"⟩, 95), (⟨"LockOrchestraModel", "qIsOn", "(I)Z"⟩, 95), (⟨"LockOrchestraModel", "qDropsNots", "()V"⟩, 95), (⟨"LockOrchestraModel", "qGoesOnTest", "()Z"⟩, 95), (⟨"LockOrchestraModel", "qHasSquare", "()Z"⟩, 95), (⟨"LockOrchestraModel", "playerTold", "(I)V"⟩, 95), (⟨"LockOrchestraModel", "stands", "()V"⟩, 95), (⟨"LockOrchestraModel", "jammedNow", "()I"⟩, 95), (⟨"LockOrchestraModel", "openNow", "()I"⟩, 95), (⟨"LockOrchestraModel", "doorMany", "()I"⟩, 95), (⟨"LockOrchestraModel", "isOpen", "(I)Z"⟩, 95), (⟨"LockOrchestraModel", "qPuts", "(J)V"⟩, 95), (⟨"LockOrchestraModel", "qOf", "(IJI)J"⟩, 95), (⟨"LockOrchestraModel", "lockMany", "()I"⟩, 95), (⟨"LockOrchestraModel", "wardNow", "(I)I"⟩, 95)]
theorem lw_r5 : ∀ q ∈ lw_privs_5, lw_okq q := List.forall_mem_cons.mpr ⟨lw_p64, List.forall_mem_cons.mpr ⟨lw_p65, List.forall_mem_cons.mpr ⟨lw_p66, List.forall_mem_cons.mpr ⟨lw_p67, List.forall_mem_cons.mpr ⟨lw_p68, List.forall_mem_cons.mpr ⟨lw_p69, List.forall_mem_cons.mpr ⟨lw_p70, List.forall_mem_cons.mpr ⟨lw_p71, List.forall_mem_cons.mpr ⟨lw_p72, List.forall_mem_cons.mpr ⟨lw_p73, List.forall_mem_cons.mpr ⟨lw_p74, List.forall_mem_cons.mpr ⟨lw_p75, List.forall_mem_cons.mpr ⟨lw_p76, List.forall_mem_cons.mpr ⟨lw_p77, List.forall_mem_cons.mpr ⟨lw_p78, List.forall_mem_cons.mpr ⟨lw_p79, fun _ h => absurd h List.not_mem_nil⟩⟩⟩⟩⟩⟩⟩⟩⟩⟩⟩⟩⟩⟩⟩⟩
theorem lw_p80 : lw_okq (⟨"LockOrchestraModel", "noteMany", "()I"⟩, 95) := ⟨⟨by decide +kernel, by decide +kernel⟩, List.mem_of_getElem? (i := 1192) (by decide +kernel), List.mem_of_getElem? (i := 1709) (by decide +kernel), List.mem_of_getElem? (i := 1710) (by decide +kernel)⟩
theorem lw_p81 : lw_okq (⟨"LockOrchestraModel", "turnOf", "(II)I"⟩, 95) := ⟨⟨by decide +kernel, by decide +kernel⟩, List.mem_of_getElem? (i := 1192) (by decide +kernel), List.mem_of_getElem? (i := 1713) (by decide +kernel), List.mem_of_getElem? (i := 1714) (by decide +kernel)⟩
theorem lw_p82 : lw_okq (⟨"LockOrchestraModel", "qPartOf", "(II)J"⟩, 95) := ⟨⟨by decide +kernel, by decide +kernel⟩, List.mem_of_getElem? (i := 1192) (by decide +kernel), List.mem_of_getElem? (i := 1722) (by decide +kernel), List.mem_of_getElem? (i := 1723) (by decide +kernel)⟩
theorem lw_p83 : lw_okq (⟨"LockOrchestraModel", "wardsOf", "(I)I"⟩, 95) := ⟨⟨by decide +kernel, by decide +kernel⟩, List.mem_of_getElem? (i := 1192) (by decide +kernel), List.mem_of_getElem? (i := 1729) (by decide +kernel), List.mem_of_getElem? (i := 1730) (by decide +kernel)⟩
theorem lw_p84 : lw_okq (⟨"LockOrchestraModel", "isJammed", "(I)Z"⟩, 95) := ⟨⟨by decide +kernel, by decide +kernel⟩, List.mem_of_getElem? (i := 1192) (by decide +kernel), List.mem_of_getElem? (i := 1733) (by decide +kernel), List.mem_of_getElem? (i := 1734) (by decide +kernel)⟩
theorem lw_p85 : lw_okq (⟨"LockOrchestraModel", "qJoins", "(I)V"⟩, 95) := ⟨⟨by decide +kernel, by decide +kernel⟩, List.mem_of_getElem? (i := 1192) (by decide +kernel), List.mem_of_getElem? (i := 1737) (by decide +kernel), List.mem_of_getElem? (i := 1738) (by decide +kernel)⟩
theorem lw_p86 : lw_okq (⟨"LockOrchestraModel", "isLockThere", "(I)Z"⟩, 95) := ⟨⟨by decide +kernel, by decide +kernel⟩, List.mem_of_getElem? (i := 1192) (by decide +kernel), List.mem_of_getElem? (i := 1754) (by decide +kernel), List.mem_of_getElem? (i := 1755) (by decide +kernel)⟩
theorem lw_p87 : lw_okq (⟨"LockOrchestraModel", "isNote", "(I)Z"⟩, 95) := ⟨⟨by decide +kernel, by decide +kernel⟩, List.mem_of_getElem? (i := 1192) (by decide +kernel), List.mem_of_getElem? (i := 1762) (by decide +kernel), List.mem_of_getElem? (i := 1763) (by decide +kernel)⟩
theorem lw_p88 : lw_okq (⟨"LockOrchestraModel", "canPlay", "(I)Z"⟩, 95) := ⟨⟨by decide +kernel, by decide +kernel⟩, List.mem_of_getElem? (i := 1192) (by decide +kernel), List.mem_of_getElem? (i := 1767) (by decide +kernel), List.mem_of_getElem? (i := 1768) (by decide +kernel)⟩
theorem lw_p89 : lw_okq (⟨"LockOrchestraModel", "playersOf", "(I)I"⟩, 95) := ⟨⟨by decide +kernel, by decide +kernel⟩, List.mem_of_getElem? (i := 1192) (by decide +kernel), List.mem_of_getElem? (i := 1771) (by decide +kernel), List.mem_of_getElem? (i := 1772) (by decide +kernel)⟩
theorem lw_p90 : lw_okq (⟨"LockOrchestraModel", "playerMany", "()I"⟩, 95) := ⟨⟨by decide +kernel, by decide +kernel⟩, List.mem_of_getElem? (i := 1192) (by decide +kernel), List.mem_of_getElem? (i := 1775) (by decide +kernel), List.mem_of_getElem? (i := 1776) (by decide +kernel)⟩
theorem lw_p91 : lw_okq (⟨"LockOrchestraModel", "isPiece", "(I)Z"⟩, 95) := ⟨⟨by decide +kernel, by decide +kernel⟩, List.mem_of_getElem? (i := 1192) (by decide +kernel), List.mem_of_getElem? (i := 1796) (by decide +kernel), List.mem_of_getElem? (i := 1797) (by decide +kernel)⟩
theorem lw_p92 : lw_okq (⟨"LockOrchestraModel", "refuses", "(I)I"⟩, 95) := ⟨⟨by decide +kernel, by decide +kernel⟩, List.mem_of_getElem? (i := 1192) (by decide +kernel), List.mem_of_getElem? (i := 1801) (by decide +kernel), List.mem_of_getElem? (i := 1802) (by decide +kernel)⟩
theorem lw_p93 : lw_okq (⟨"LockOrchestraModel", "putsAside", "()V"⟩, 95) := ⟨⟨by decide +kernel, by decide +kernel⟩, List.mem_of_getElem? (i := 1192) (by decide +kernel), List.mem_of_getElem? (i := 1805) (by decide +kernel), List.mem_of_getElem? (i := 1806) (by decide +kernel)⟩
theorem lw_p94 : lw_okq (⟨"LockOrchestraModel", "turns", "(I)V"⟩, 95) := ⟨⟨by decide +kernel, by decide +kernel⟩, List.mem_of_getElem? (i := 1192) (by decide +kernel), List.mem_of_getElem? (i := 1809) (by decide +kernel), List.mem_of_getElem? (i := 1810) (by decide +kernel)⟩
theorem lw_p95 : lw_okq (⟨"LockOrchestraModel", "takesBack", "()V"⟩, 95) := ⟨⟨by decide +kernel, by decide +kernel⟩, List.mem_of_getElem? (i := 1192) (by decide +kernel), List.mem_of_getElem? (i := 1813) (by decide +kernel), List.mem_of_getElem? (i := 1814) (by decide +kernel)⟩
def lw_privs_6 : List (MethodName × Nat) := [(⟨"LockOrchestraModel", "noteMany", "()I"⟩, 95), (⟨"LockOrchestraModel", "turnOf", "(II)I"⟩, 95), (⟨"LockOrchestraModel", "qPartOf", "(II)J"⟩, 95), (⟨"LockOrchestraModel", "wardsOf", "(I)I"⟩, 95), (⟨"LockOrchestraModel", "isJammed", "(I)Z"⟩, 95), (⟨"LockOrchestraModel", "qJoins", "(I)V"⟩, 95), (⟨"LockOrchestraModel", "isLockThere", "(I)Z"⟩, 95), (⟨"LockOrchestraModel", "isNote", "(I)Z"⟩, 95), (⟨"LockOrchestraModel", "canPlay", "(I)Z"⟩, 95), (⟨"LockOrchestraModel", "playersOf", "(I)I"⟩, 95), (⟨"LockOrchestraModel", "playerMany", "()I"⟩, 95), (⟨"LockOrchestraModel", "isPiece", "(I)Z"⟩, 95), (⟨"LockOrchestraModel", "refuses", "(I)I"⟩, 95), (⟨"LockOrchestraModel", "putsAside", "()V"⟩, 95), (⟨"LockOrchestraModel", "turns", "(I)V"⟩, 95), (⟨"LockOrchestraModel", "takesBack", "()V"⟩, 95)]
theorem lw_r6 : ∀ q ∈ lw_privs_6, lw_okq q := List.forall_mem_cons.mpr ⟨lw_p80, List.forall_mem_cons.mpr ⟨lw_p81, List.forall_mem_cons.mpr ⟨lw_p82, List.forall_mem_cons.mpr ⟨lw_p83, List.forall_mem_cons.mpr ⟨lw_p84, List.forall_mem_cons.mpr ⟨lw_p85, List.forall_mem_cons.mpr ⟨lw_p86, List.forall_mem_cons.mpr ⟨lw_p87, List.forall_mem_cons.mpr ⟨lw_p88, List.forall_mem_cons.mpr ⟨lw_p89, List.forall_mem_cons.mpr ⟨lw_p90, List.forall_mem_cons.mpr ⟨lw_p91, List.forall_mem_cons.mpr ⟨lw_p92, List.forall_mem_cons.mpr ⟨lw_p93, List.forall_mem_cons.mpr ⟨lw_p94, List.forall_mem_cons.mpr ⟨lw_p95, fun _ h => absurd h List.not_mem_nil⟩⟩⟩⟩⟩⟩⟩⟩⟩⟩⟩⟩⟩⟩⟩⟩
theorem lw_p96 : lw_okq (⟨"LockOrchestraModel", "areDoors", "(I)Z"⟩, 95) := ⟨⟨by decide +kernel, by decide +kernel⟩, List.mem_of_getElem? (i := 1192) (by decide +kernel), List.mem_of_getElem? (i := 1825) (by decide +kernel), List.mem_of_getElem? (i := 1826) (by decide +kernel)⟩
theorem lw_p97 : lw_okq (⟨"LockOrchestraModel", "seeks", "(III)I"⟩, 95) := ⟨⟨by decide +kernel, by decide +kernel⟩, List.mem_of_getElem? (i := 1192) (by decide +kernel), List.mem_of_getElem? (i := 1829) (by decide +kernel), List.mem_of_getElem? (i := 1830) (by decide +kernel)⟩
theorem lw_p98 : lw_okq (⟨"LockOrchestraModel", "stateNow", "()I"⟩, 95) := ⟨⟨by decide +kernel, by decide +kernel⟩, List.mem_of_getElem? (i := 1192) (by decide +kernel), List.mem_of_getElem? (i := 1833) (by decide +kernel), List.mem_of_getElem? (i := 1834) (by decide +kernel)⟩
theorem lw_p99 : lw_okq (⟨"LockOrchestraModel", "wardWays", "()I"⟩, 95) := ⟨⟨by decide +kernel, by decide +kernel⟩, List.mem_of_getElem? (i := 1192) (by decide +kernel), List.mem_of_getElem? (i := 1837) (by decide +kernel), List.mem_of_getElem? (i := 1838) (by decide +kernel)⟩
theorem lw_p100 : lw_okq (⟨"LockOrchestraModel", "isState", "(I)V"⟩, 95) := ⟨⟨by decide +kernel, by decide +kernel⟩, List.mem_of_getElem? (i := 1192) (by decide +kernel), List.mem_of_getElem? (i := 1841) (by decide +kernel), List.mem_of_getElem? (i := 1842) (by decide +kernel)⟩
theorem lw_p101 : lw_okq (⟨"LockOrchestraModel", "isThere", "(II)Z"⟩, 95) := ⟨⟨by decide +kernel, by decide +kernel⟩, List.mem_of_getElem? (i := 1192) (by decide +kernel), List.mem_of_getElem? (i := 1845) (by decide +kernel), List.mem_of_getElem? (i := 1846) (by decide +kernel)⟩
theorem lw_p102 : lw_okq (⟨"LockOrchestraModel", "isAsTold", "()Z"⟩, 95) := ⟨⟨by decide +kernel, by decide +kernel⟩, List.mem_of_getElem? (i := 1192) (by decide +kernel), List.mem_of_getElem? (i := 1849) (by decide +kernel), List.mem_of_getElem? (i := 1850) (by decide +kernel)⟩
theorem lw_p103 : lw_okq (⟨"LockOrchestraModel", "comesTo", "(II)V"⟩, 95) := ⟨⟨by decide +kernel, by decide +kernel⟩, List.mem_of_getElem? (i := 1192) (by decide +kernel), List.mem_of_getElem? (i := 1853) (by decide +kernel), List.mem_of_getElem? (i := 1854) (by decide +kernel)⟩
theorem lw_p104 : lw_okq (⟨"LockOrchestraModel", "wayTo", "(II)I"⟩, 95) := ⟨⟨by decide +kernel, by decide +kernel⟩, List.mem_of_getElem? (i := 1192) (by decide +kernel), List.mem_of_getElem? (i := 1857) (by decide +kernel), List.mem_of_getElem? (i := 1858) (by decide +kernel)⟩
theorem lw_p105 : lw_okq (⟨"LockOrchestraModel", "isSharedBy", "(I)Z"⟩, 95) := ⟨⟨by decide +kernel, by decide +kernel⟩, List.mem_of_getElem? (i := 1192) (by decide +kernel), List.mem_of_getElem? (i := 1877) (by decide +kernel), List.mem_of_getElem? (i := 1878) (by decide +kernel)⟩
theorem lw_p106 : lw_okq (⟨"LockOrchestraModel", "isSlip", "(III)Z"⟩, 95) := ⟨⟨by decide +kernel, by decide +kernel⟩, List.mem_of_getElem? (i := 1192) (by decide +kernel), List.mem_of_getElem? (i := 1888) (by decide +kernel), List.mem_of_getElem? (i := 1889) (by decide +kernel)⟩
theorem lw_p107 : lw_okq (⟨"LockOrchestraModel", "isHeardFrom", "(I)Z"⟩, 95) := ⟨⟨by decide +kernel, by decide +kernel⟩, List.mem_of_getElem? (i := 1192) (by decide +kernel), List.mem_of_getElem? (i := 1904) (by decide +kernel), List.mem_of_getElem? (i := 1905) (by decide +kernel)⟩
theorem lw_p108 : lw_okq (⟨"LockOrchestraModel", "keeps", "()V"⟩, 95) := ⟨⟨by decide +kernel, by decide +kernel⟩, List.mem_of_getElem? (i := 1192) (by decide +kernel), List.mem_of_getElem? (i := 1924) (by decide +kernel), List.mem_of_getElem? (i := 1925) (by decide +kernel)⟩
theorem lw_p109 : lw_okq (⟨"LockOrchestraModel", "isPlayed", "(I)V"⟩, 95) := ⟨⟨by decide +kernel, by decide +kernel⟩, List.mem_of_getElem? (i := 1192) (by decide +kernel), List.mem_of_getElem? (i := 1928) (by decide +kernel), List.mem_of_getElem? (i := 1929) (by decide +kernel)⟩
theorem lw_p110 : lw_okq (⟨"LockOrchestraModel", "keepsDoors", "(I)V"⟩, 95) := ⟨⟨by decide +kernel, by decide +kernel⟩, List.mem_of_getElem? (i := 1192) (by decide +kernel), List.mem_of_getElem? (i := 1932) (by decide +kernel), List.mem_of_getElem? (i := 1933) (by decide +kernel)⟩
theorem lw_p111 : lw_okq (⟨"LockOrchestraModel", "drawOf", "(I)I"⟩, 95) := ⟨⟨by decide +kernel, by decide +kernel⟩, List.mem_of_getElem? (i := 1192) (by decide +kernel), List.mem_of_getElem? (i := 1949) (by decide +kernel), List.mem_of_getElem? (i := 1950) (by decide +kernel)⟩
def lw_privs_7 : List (MethodName × Nat) := [(⟨"LockOrchestraModel", "areDoors", "(I)Z"⟩, 95), (⟨"LockOrchestraModel", "seeks", "(III)I"⟩, 95), (⟨"LockOrchestraModel", "stateNow", "()I"⟩, 95), (⟨"LockOrchestraModel", "wardWays", "()I"⟩, 95), (⟨"LockOrchestraModel", "isState", "(I)V"⟩, 95), (⟨"LockOrchestraModel", "isThere", "(II)Z"⟩, 95), (⟨"LockOrchestraModel", "isAsTold", "()Z"⟩, 95), (⟨"LockOrchestraModel", "comesTo", "(II)V"⟩, 95), (⟨"LockOrchestraModel", "wayTo", "(II)I"⟩, 95), (⟨"LockOrchestraModel", "isSharedBy", "(I)Z"⟩, 95), (⟨"LockOrchestraModel", "isSlip", "(III)Z"⟩, 95), (⟨"LockOrchestraModel", "isHeardFrom", "(I)Z"⟩, 95), (⟨"LockOrchestraModel", "keeps", "()V"⟩, 95), (⟨"LockOrchestraModel", "isPlayed", "(I)V"⟩, 95), (⟨"LockOrchestraModel", "keepsDoors", "(I)V"⟩, 95), (⟨"LockOrchestraModel", "drawOf", "(I)I"⟩, 95)]
theorem lw_r7 : ∀ q ∈ lw_privs_7, lw_okq q := List.forall_mem_cons.mpr ⟨lw_p96, List.forall_mem_cons.mpr ⟨lw_p97, List.forall_mem_cons.mpr ⟨lw_p98, List.forall_mem_cons.mpr ⟨lw_p99, List.forall_mem_cons.mpr ⟨lw_p100, List.forall_mem_cons.mpr ⟨lw_p101, List.forall_mem_cons.mpr ⟨lw_p102, List.forall_mem_cons.mpr ⟨lw_p103, List.forall_mem_cons.mpr ⟨lw_p104, List.forall_mem_cons.mpr ⟨lw_p105, List.forall_mem_cons.mpr ⟨lw_p106, List.forall_mem_cons.mpr ⟨lw_p107, List.forall_mem_cons.mpr ⟨lw_p108, List.forall_mem_cons.mpr ⟨lw_p109, List.forall_mem_cons.mpr ⟨lw_p110, List.forall_mem_cons.mpr ⟨lw_p111, fun _ h => absurd h List.not_mem_nil⟩⟩⟩⟩⟩⟩⟩⟩⟩⟩⟩⟩⟩⟩⟩⟩
theorem lw_p112 : lw_okq (⟨"LockOrchestraModel", "qKind", "()I"⟩, 95) := ⟨⟨by decide +kernel, by decide +kernel⟩, List.mem_of_getElem? (i := 1192) (by decide +kernel), List.mem_of_getElem? (i := 1961) (by decide +kernel), List.mem_of_getElem? (i := 1962) (by decide +kernel)⟩
theorem lw_p113 : lw_okq (⟨"LockOrchestraModel", "qTold", "(I)J"⟩, 95) := ⟨⟨by decide +kernel, by decide +kernel⟩, List.mem_of_getElem? (i := 1192) (by decide +kernel), List.mem_of_getElem? (i := 1966) (by decide +kernel), List.mem_of_getElem? (i := 1967) (by decide +kernel)⟩
theorem lw_p114 : lw_okq (⟨"LockOrchestraModel", "qTakes", "(IJI)V"⟩, 95) := ⟨⟨by decide +kernel, by decide +kernel⟩, List.mem_of_getElem? (i := 1192) (by decide +kernel), List.mem_of_getElem? (i := 1970) (by decide +kernel), List.mem_of_getElem? (i := 1971) (by decide +kernel)⟩
theorem lw_p115 : lw_okq (⟨"LockOrchestraModel", "writes", "(I)V"⟩, 95) := ⟨⟨by decide +kernel, by decide +kernel⟩, List.mem_of_getElem? (i := 1192) (by decide +kernel), List.mem_of_getElem? (i := 1978) (by decide +kernel), List.mem_of_getElem? (i := 1979) (by decide +kernel)⟩
theorem lw_p116 : lw_okq (⟨"LockOrchestraModel", "isImage", "(I)Z"⟩, 95) := ⟨⟨by decide +kernel, by decide +kernel⟩, List.mem_of_getElem? (i := 1192) (by decide +kernel), List.mem_of_getElem? (i := 1993) (by decide +kernel), List.mem_of_getElem? (i := 1994) (by decide +kernel)⟩
def lw_privs_8 : List (MethodName × Nat) := [(⟨"LockOrchestraModel", "qKind", "()I"⟩, 95), (⟨"LockOrchestraModel", "qTold", "(I)J"⟩, 95), (⟨"LockOrchestraModel", "qTakes", "(IJI)V"⟩, 95), (⟨"LockOrchestraModel", "writes", "(I)V"⟩, 95), (⟨"LockOrchestraModel", "isImage", "(I)Z"⟩, 95)]
theorem lw_r8 : ∀ q ∈ lw_privs_8, lw_okq q := List.forall_mem_cons.mpr ⟨lw_p112, List.forall_mem_cons.mpr ⟨lw_p113, List.forall_mem_cons.mpr ⟨lw_p114, List.forall_mem_cons.mpr ⟨lw_p115, List.forall_mem_cons.mpr ⟨lw_p116, fun _ h => absurd h List.not_mem_nil⟩⟩⟩⟩⟩
def lw_privs : List (MethodName × Nat) := lw_privs_1 ++ (lw_privs_2 ++ (lw_privs_3 ++ (lw_privs_4 ++ (lw_privs_5 ++ (lw_privs_6 ++ (lw_privs_7 ++ (lw_privs_8)))))))
def lw_tbl : List Cond := k2_sels lw_privs ++ tables_1
theorem lw_privs_ok : ∀ q ∈ lw_privs, lw_okq q := by
  show ∀ q ∈ lw_privs_1 ++ (lw_privs_2 ++ (lw_privs_3 ++ (lw_privs_4 ++ (lw_privs_5 ++ (lw_privs_6 ++ (lw_privs_7 ++ (lw_privs_8))))))), lw_okq q
  exact List.forall_mem_append.mpr ⟨lw_r1, List.forall_mem_append.mpr ⟨lw_r2, List.forall_mem_append.mpr ⟨lw_r3, List.forall_mem_append.mpr ⟨lw_r4, List.forall_mem_append.mpr ⟨lw_r5, List.forall_mem_append.mpr ⟨lw_r6, List.forall_mem_append.mpr ⟨lw_r7, lw_r8⟩⟩⟩⟩⟩⟩⟩
end
section
/-! the tables of the program, written by wip/gen/gen.py: classes and fields, methods with their code, constant pools -/
abbrev am_M : Type := Nat × Bool × Nat × Nat × Option FieldType × MethodName × ByteArray × List (Nat × Instr)
def am_o (M : am_M) : Nat := M.1
def am_ini (M : am_M) : Bool := M.2.1
def am_na (M : am_M) : Nat := M.2.2.1
def am_ml (M : am_M) : Nat := M.2.2.2.1
def am_rt (M : am_M) : Option FieldType := M.2.2.2.2.1
def am_y (M : am_M) : MethodName := M.2.2.2.2.2.1
def am_cc (M : am_M) : ByteArray := M.2.2.2.2.2.2.1
def am_cd (M : am_M) : List (Nat × Instr) := M.2.2.2.2.2.2.2
def am_cn : List String := ["LockOrchestra$Code", "LockOrchestra$Hall", "LockOrchestra$HallReader", "LockOrchestra$Heard", "LockOrchestra$Piece", "LockOrchestra$Question", "LockOrchestra$Search", "LockOrchestra$Story", "LockOrchestra$Tape", "LockOrchestra$TestReader", "LockOrchestra$Words", "LockOrchestra", "LockOrchestraModel", "LockOrchestraLaw", "java/lang/Integer", "java/lang/Math", "java/lang/String", "java/lang/StringLatin1", "java/util/Arrays"]
def am_n (o : Nat) : String := am_cn.getD o ""
def am_T0 : u_T := fun k => match k with
  | 0 => ("LockOrchestra$Code", "steps", "[I", true)
  | 1 => ("LockOrchestra$Code", "stack", "[I", true)
  | 2 => ("LockOrchestra$Code", "size", "I", false)
  | _ => ("LockOrchestra$Code", "top", "I", false)
def am_Y0 : Nat → FieldType := fun k => match k with
  | 0 => (.array .int)
  | 1 => (.array .int)
  | 2 => .int
  | _ => .int
def am_T1 : u_T := fun k => match k with
  | 0 => ("LockOrchestra$Hall", "code", "LLockOrchestra$Code;", true)
  | 1 => ("LockOrchestra$Hall", "counts", "[I", true)
  | 2 => ("LockOrchestra$Hall", "names", "[I", true)
  | 3 => ("LockOrchestra$Hall", "wards", "[I", true)
  | 4 => ("LockOrchestra$Hall", "jamWards", "[I", true)
  | 5 => ("LockOrchestra$Hall", "placeValues", "[I", true)
  | 6 => ("LockOrchestra$Hall", "turns", "[I", true)
  | 7 => ("LockOrchestra$Hall", "noteLocks", "[I", true)
  | 8 => ("LockOrchestra$Hall", "playerNotes", "[I", true)
  | 9 => ("LockOrchestra$Hall", "doorFrom", "[I", true)
  | 10 => ("LockOrchestra$Hall", "doorTo", "[I", true)
  | 11 => ("LockOrchestra$Hall", "doorMemo", "[I", true)
  | 12 => ("LockOrchestra$Hall", "ways", "I", false)
  | 13 => ("LockOrchestra$Hall", "firstState", "I", false)
  | _ => ("LockOrchestra$Hall", "rust", "I", false)
def am_Y1 : Nat → FieldType := fun k => match k with
  | 0 => (.object "LockOrchestra$Code")
  | 1 => (.array .int)
  | 2 => (.array .int)
  | 3 => (.array .int)
  | 4 => (.array .int)
  | 5 => (.array .int)
  | 6 => (.array .int)
  | 7 => (.array .int)
  | 8 => (.array .int)
  | 9 => (.array .int)
  | 10 => (.array .int)
  | 11 => (.array .int)
  | 12 => .int
  | 13 => .int
  | _ => .int
def am_T2 : u_T := fun k => match k with
  | 0 => ("LockOrchestra$HallReader", "words", "LLockOrchestra$Words;", true)
  | _ => ("LockOrchestra$HallReader", "tests", "LLockOrchestra$TestReader;", true)
def am_Y2 : Nat → FieldType := fun k => match k with
  | 0 => (.object "LockOrchestra$Words")
  | _ => (.object "LockOrchestra$TestReader")
def am_T3 : u_T := fun k => match k with
  | 0 => ("LockOrchestra$Heard", "notes", "[I", true)
  | 1 => ("LockOrchestra$Heard", "doors", "[I", true)
  | _ => ("LockOrchestra$Heard", "rows", "I", false)
def am_Y3 : Nat → FieldType := fun k => match k with
  | 0 => (.array .int)
  | 1 => (.array .int)
  | _ => .int
def am_T4 : u_T := fun k => match k with
  | 0 => ("LockOrchestra$Piece", "notes", "[I", true)
  | _ => ("LockOrchestra$Piece", "length", "I", false)
def am_Y4 : Nat → FieldType := fun k => match k with
  | 0 => (.array .int)
  | _ => .int
def am_T5 : u_T := fun k => match k with
  | 0 => ("LockOrchestra$Question", "words", "LLockOrchestra$Words;", true)
  | 1 => ("LockOrchestra$Question", "tests", "LLockOrchestra$TestReader;", true)
  | 2 => ("LockOrchestra$Question", "code", "LLockOrchestra$Code;", true)
  | _ => ("LockOrchestra$Question", "asked", "I", false)
def am_Y5 : Nat → FieldType := fun k => match k with
  | 0 => (.object "LockOrchestra$Words")
  | 1 => (.object "LockOrchestra$TestReader")
  | 2 => (.object "LockOrchestra$Code")
  | _ => .int
def am_T6 : u_T := fun k => match k with
  | 0 => ("LockOrchestra$Search", "seen", "[I", true)
  | 1 => ("LockOrchestra$Search", "reached", "[I", true)
  | 2 => ("LockOrchestra$Search", "cameFrom", "[I", true)
  | 3 => ("LockOrchestra$Search", "cameBy", "[I", true)
  | 4 => ("LockOrchestra$Search", "count", "I", false)
  | 5 => ("LockOrchestra$Search", "sought", "I", false)
  | _ => ("LockOrchestra$Search", "goal", "I", false)
def am_Y6 : Nat → FieldType := fun k => match k with
  | 0 => (.array .int)
  | 1 => (.array .int)
  | 2 => (.array .int)
  | 3 => (.array .int)
  | 4 => .int
  | 5 => .int
  | _ => .int
def am_T7 : u_T := fun k => match k with
  | 0 => ("LockOrchestra$Story", "now", "[I", true)
  | 1 => ("LockOrchestra$Story", "past", "[[I", true)
  | 2 => ("LockOrchestra$Story", "oldest", "I", false)
  | _ => ("LockOrchestra$Story", "acts", "I", false)
def am_Y7 : Nat → FieldType := fun k => match k with
  | 0 => (.array .int)
  | 1 => (.array (.array .int))
  | 2 => .int
  | _ => .int
def am_T8 : u_T := fun k => match k with
  | 0 => ("LockOrchestra$Tape", "bytes", "[I", true)
  | _ => ("LockOrchestra$Tape", "length", "I", false)
def am_Y8 : Nat → FieldType := fun k => match k with
  | 0 => (.array .int)
  | _ => .int
def am_T9 : u_T := fun k => match k with
  | 0 => ("LockOrchestra$TestReader", "words", "LLockOrchestra$Words;", true)
  | _ => ("LockOrchestra$TestReader", "ofLocks", "Z", true)
def am_Y9 : Nat → FieldType := fun k => match k with
  | 0 => (.object "LockOrchestra$Words")
  | _ => .boolean
def am_T10 : u_T := fun k => match k with
  | 0 => ("LockOrchestra$Words", "tape", "LLockOrchestra$Tape;", true)
  | 1 => ("LockOrchestra$Words", "kind", "I", false)
  | 2 => ("LockOrchestra$Words", "from", "I", false)
  | 3 => ("LockOrchestra$Words", "to", "I", false)
  | 4 => ("LockOrchestra$Words", "fault", "I", false)
  | _ => ("LockOrchestra$Words", "faultPlace", "I", false)
def am_Y10 : Nat → FieldType := fun k => match k with
  | 0 => (.object "LockOrchestra$Tape")
  | 1 => .int
  | 2 => .int
  | 3 => .int
  | 4 => .int
  | _ => .int
def am_T11 : u_T := fun k => match k with
  | 0 => ("LockOrchestra", "tape", "LLockOrchestra$Tape;", true)
  | 1 => ("LockOrchestra", "words", "LLockOrchestra$Words;", true)
  | 2 => ("LockOrchestra", "hallReader", "LLockOrchestra$HallReader;", true)
  | 3 => ("LockOrchestra", "question", "LLockOrchestra$Question;", true)
  | 4 => ("LockOrchestra", "search", "LLockOrchestra$Search;", true)
  | 5 => ("LockOrchestra", "piece", "LLockOrchestra$Piece;", true)
  | 6 => ("LockOrchestra", "heard", "LLockOrchestra$Heard;", true)
  | 7 => ("LockOrchestra", "now", "LLockOrchestra$Story;", true)
  | 8 => ("LockOrchestra", "judged", "[I", true)
  | 9 => ("LockOrchestra", "slipped", "[I", true)
  | 10 => ("LockOrchestra", "image", "[I", true)
  | 11 => ("LockOrchestra", "refused", "[I", true)
  | 12 => ("LockOrchestra", "hall", "LLockOrchestra$Hall;", false)
  | 13 => ("LockOrchestra", "spare", "LLockOrchestra$Hall;", false)
  | 14 => ("LockOrchestra", "wasJudged", "Z", false)
  | 15 => ("LockOrchestra", "hasSlipped", "Z", false)
  | 16 => ("LockOrchestra", "imageLength", "I", false)
  | _ => ("LockOrchestra", "drawn", "J", false)
def am_Y11 : Nat → FieldType := fun k => match k with
  | 0 => (.object "LockOrchestra$Tape")
  | 1 => (.object "LockOrchestra$Words")
  | 2 => (.object "LockOrchestra$HallReader")
  | 3 => (.object "LockOrchestra$Question")
  | 4 => (.object "LockOrchestra$Search")
  | 5 => (.object "LockOrchestra$Piece")
  | 6 => (.object "LockOrchestra$Heard")
  | 7 => (.object "LockOrchestra$Story")
  | 8 => (.array .int)
  | 9 => (.array .int)
  | 10 => (.array .int)
  | 11 => (.array .int)
  | 12 => (.object "LockOrchestra$Hall")
  | 13 => (.object "LockOrchestra$Hall")
  | 14 => .boolean
  | 15 => .boolean
  | 16 => .int
  | _ => .long
def am_T12 : u_T := fun k => match k with
  | 0 => ("LockOrchestraModel", "tape", "[I", true)
  | 1 => ("LockOrchestraModel", "taped", "I", false)
  | 2 => ("LockOrchestraModel", "at", "I", false)
  | 3 => ("LockOrchestraModel", "end", "I", false)
  | 4 => ("LockOrchestraModel", "ended", "I", false)
  | 5 => ("LockOrchestraModel", "bad", "I", false)
  | 6 => ("LockOrchestraModel", "badPlace", "I", false)
  | 7 => ("LockOrchestraModel", "fault", "I", false)
  | 8 => ("LockOrchestraModel", "faultPlace", "I", false)
  | 9 => ("LockOrchestraModel", "refused", "[I", true)
  | 10 => ("LockOrchestraModel", "lockWord", "[C", true)
  | 11 => ("LockOrchestraModel", "wardsWord", "[C", true)
  | 12 => ("LockOrchestraModel", "atWord", "[C", true)
  | 13 => ("LockOrchestraModel", "jamsWord", "[C", true)
  | 14 => ("LockOrchestraModel", "noteWord", "[C", true)
  | 15 => ("LockOrchestraModel", "turnsWord", "[C", true)
  | 16 => ("LockOrchestraModel", "doorWord", "[C", true)
  | 17 => ("LockOrchestraModel", "opensWord", "[C", true)
  | 18 => ("LockOrchestraModel", "playerWord", "[C", true)
  | 19 => ("LockOrchestraModel", "playsWord", "[C", true)
  | 20 => ("LockOrchestraModel", "rustWord", "[C", true)
  | 21 => ("LockOrchestraModel", "wardWord", "[C", true)
  | 22 => ("LockOrchestraModel", "stuckWord", "[C", true)
  | 23 => ("LockOrchestraModel", "numberWord", "[C", true)
  | 24 => ("LockOrchestraModel", "orWord", "[C", true)
  | 25 => ("LockOrchestraModel", "andWord", "[C", true)
  | 26 => ("LockOrchestraModel", "notWord", "[C", true)
  | 27 => ("LockOrchestraModel", "allWord", "[C", true)
  | 28 => ("LockOrchestraModel", "minWord", "[C", true)
  | 29 => ("LockOrchestraModel", "maxWord", "[C", true)
  | 30 => ("LockOrchestraModel", "namePlace", "I", false)
  | 31 => ("LockOrchestraModel", "many", "[I", true)
  | 32 => ("LockOrchestraModel", "names", "[J", true)
  | 33 => ("LockOrchestraModel", "locks", "[I", true)
  | 34 => ("LockOrchestraModel", "turning", "[I", true)
  | 35 => ("LockOrchestraModel", "plays0", "[I", true)
  | 36 => ("LockOrchestraModel", "rust", "[I", true)
  | 37 => ("LockOrchestraModel", "codeFrom", "[I", true)
  | 38 => ("LockOrchestraModel", "codeEnd", "[I", true)
  | 39 => ("LockOrchestraModel", "codes", "[I", true)
  | 40 => ("LockOrchestraModel", "coded", "I", false)
  | 41 => ("LockOrchestraModel", "statements", "I", false)
  | 42 => ("LockOrchestraModel", "inDoor", "Z", false)
  | 43 => ("LockOrchestraModel", "now", "[I", true)
  | 44 => ("LockOrchestraModel", "aside", "[I", true)
  | 45 => ("LockOrchestraModel", "piece0", "[I", true)
  | 46 => ("LockOrchestraModel", "pieceMany", "I", false)
  | 47 => ("LockOrchestraModel", "isJudged", "Z", false)
  | 48 => ("LockOrchestraModel", "judgedOpen", "I", false)
  | 49 => ("LockOrchestraModel", "judgedJammed", "I", false)
  | 50 => ("LockOrchestraModel", "judgedOpened", "I", false)
  | 51 => ("LockOrchestraModel", "far", "[I", true)
  | 52 => ("LockOrchestraModel", "from", "[I", true)
  | 53 => ("LockOrchestraModel", "by", "[I", true)
  | 54 => ("LockOrchestraModel", "row", "[I", true)
  | 55 => ("LockOrchestraModel", "reached", "I", false)
  | 56 => ("LockOrchestraModel", "slipPlace", "I", false)
  | 57 => ("LockOrchestraModel", "slipNote", "I", false)
  | 58 => ("LockOrchestraModel", "rowMany", "I", false)
  | 59 => ("LockOrchestraModel", "heard", "[I", true)
  | 60 => ("LockOrchestraModel", "kept0", "[I", true)
  | 61 => ("LockOrchestraModel", "undoable", "I", false)
  | 62 => ("LockOrchestraModel", "newest", "I", false)
  | 63 => ("LockOrchestraModel", "seeded", "J", false)
  | 64 => ("LockOrchestraModel", "firstAsked", "[C", true)
  | 65 => ("LockOrchestraModel", "lastAsked", "[C", true)
  | 66 => ("LockOrchestraModel", "oftenAsked", "[C", true)
  | 67 => ("LockOrchestraModel", "totalAsked", "[C", true)
  | 68 => ("LockOrchestraModel", "mostAsked", "[C", true)
  | 69 => ("LockOrchestraModel", "leastAsked", "[C", true)
  | 70 => ("LockOrchestraModel", "notAsked", "[C", true)
  | 71 => ("LockOrchestraModel", "andAsked", "[C", true)
  | 72 => ("LockOrchestraModel", "orAsked", "[C", true)
  | 73 => ("LockOrchestraModel", "allAsked", "[C", true)
  | 74 => ("LockOrchestraModel", "minAsked", "[C", true)
  | 75 => ("LockOrchestraModel", "maxAsked", "[C", true)
  | 76 => ("LockOrchestraModel", "jamsAsked", "[C", true)
  | 77 => ("LockOrchestraModel", "numberAsked", "[C", true)
  | 78 => ("LockOrchestraModel", "wardsAsked", "[C", true)
  | 79 => ("LockOrchestraModel", "wardAsked", "[C", true)
  | 80 => ("LockOrchestraModel", "stuckAsked", "[C", true)
  | 81 => ("LockOrchestraModel", "atAsked", "[C", true)
  | 82 => ("LockOrchestraModel", "turnsAsked", "[C", true)
  | 83 => ("LockOrchestraModel", "qCodes", "[I", true)
  | 84 => ("LockOrchestraModel", "qCoded", "I", false)
  | 85 => ("LockOrchestraModel", "qWait", "[I", true)
  | 86 => ("LockOrchestraModel", "qWaits", "I", false)
  | 87 => ("LockOrchestraModel", "qOpened", "I", false)
  | 88 => ("LockOrchestraModel", "qBase", "I", false)
  | 89 => ("LockOrchestraModel", "qPile", "[J", true)
  | 90 => ("LockOrchestraModel", "qPiled", "I", false)
  | 91 => ("LockOrchestraModel", "qAnswer", "J", false)
  | 92 => ("LockOrchestraModel", "qIsNew", "Z", false)
  | 93 => ("LockOrchestraModel", "octet", "[I", true)
  | _ => ("LockOrchestraModel", "octets", "I", false)
def am_Y12 : Nat → FieldType := fun k => match k with
  | 0 => (.array .int)
  | 1 => .int
  | 2 => .int
  | 3 => .int
  | 4 => .int
  | 5 => .int
  | 6 => .int
  | 7 => .int
  | 8 => .int
  | 9 => (.array .int)
  | 10 => (.array .char)
  | 11 => (.array .char)
  | 12 => (.array .char)
  | 13 => (.array .char)
  | 14 => (.array .char)
  | 15 => (.array .char)
  | 16 => (.array .char)
  | 17 => (.array .char)
  | 18 => (.array .char)
  | 19 => (.array .char)
  | 20 => (.array .char)
  | 21 => (.array .char)
  | 22 => (.array .char)
  | 23 => (.array .char)
  | 24 => (.array .char)
  | 25 => (.array .char)
  | 26 => (.array .char)
  | 27 => (.array .char)
  | 28 => (.array .char)
  | 29 => (.array .char)
  | 30 => .int
  | 31 => (.array .int)
  | 32 => (.array .long)
  | 33 => (.array .int)
  | 34 => (.array .int)
  | 35 => (.array .int)
  | 36 => (.array .int)
  | 37 => (.array .int)
  | 38 => (.array .int)
  | 39 => (.array .int)
  | 40 => .int
  | 41 => .int
  | 42 => .boolean
  | 43 => (.array .int)
  | 44 => (.array .int)
  | 45 => (.array .int)
  | 46 => .int
  | 47 => .boolean
  | 48 => .int
  | 49 => .int
  | 50 => .int
  | 51 => (.array .int)
  | 52 => (.array .int)
  | 53 => (.array .int)
  | 54 => (.array .int)
  | 55 => .int
  | 56 => .int
  | 57 => .int
  | 58 => .int
  | 59 => (.array .int)
  | 60 => (.array .int)
  | 61 => .int
  | 62 => .int
  | 63 => .long
  | 64 => (.array .char)
  | 65 => (.array .char)
  | 66 => (.array .char)
  | 67 => (.array .char)
  | 68 => (.array .char)
  | 69 => (.array .char)
  | 70 => (.array .char)
  | 71 => (.array .char)
  | 72 => (.array .char)
  | 73 => (.array .char)
  | 74 => (.array .char)
  | 75 => (.array .char)
  | 76 => (.array .char)
  | 77 => (.array .char)
  | 78 => (.array .char)
  | 79 => (.array .char)
  | 80 => (.array .char)
  | 81 => (.array .char)
  | 82 => (.array .char)
  | 83 => (.array .int)
  | 84 => .int
  | 85 => (.array .int)
  | 86 => .int
  | 87 => .int
  | 88 => .int
  | 89 => (.array .long)
  | 90 => .int
  | 91 => .long
  | 92 => .boolean
  | 93 => (.array .int)
  | _ => .int
def am_cl : List vw_C := [("LockOrchestra$Code", am_T0, 4), ("LockOrchestra$Hall", am_T1, 15), ("LockOrchestra$HallReader", am_T2, 2), ("LockOrchestra$Heard", am_T3, 3), ("LockOrchestra$Piece", am_T4, 2), ("LockOrchestra$Question", am_T5, 4), ("LockOrchestra$Search", am_T6, 7), ("LockOrchestra$Story", am_T7, 4), ("LockOrchestra$Tape", am_T8, 2), ("LockOrchestra$TestReader", am_T9, 2), ("LockOrchestra$Words", am_T10, 6), ("LockOrchestra", am_T11, 18), ("LockOrchestraModel", am_T12, 95)]
def am_cy : List (Nat → FieldType) := [am_Y0, am_Y1, am_Y2, am_Y3, am_Y4, am_Y5, am_Y6, am_Y7, am_Y8, am_Y9, am_Y10, am_Y11, am_Y12]
/-- LockOrchestra$Code.<init>()V -/
def am_m0 : am_M := (0, true, 1, 1, none, ⟨"LockOrchestra$Code", "<init>", "()V"⟩, prog_2_method_1_code, [(0, .aload_n 0), (1, .invokespecial 3), (4, .aload_n 0), (5, .sipush 1600), (8, .newarray .int), (10, .putfield 9), (13, .aload_n 0), (14, .bipush 64), (16, .newarray .int), (18, .putfield 15), (21, .aload_n 0), (22, .iconst 0), (23, .putfield 18), (26, .aload_n 0), (27, .iconst 0), (28, .putfield 22), (31, .return_)])
/-- LockOrchestra$Code.clear()V -/
def am_m1 : am_M := (0, false, 1, 1, none, ⟨"LockOrchestra$Code", "clear", "()V"⟩, prog_2_method_2_code, [(0, .aload_n 0), (1, .iconst 0), (2, .putfield 18), (5, .return_)])
/-- LockOrchestra$Code.size()I -/
def am_m2 : am_M := (0, false, 1, 1, (some .int), ⟨"LockOrchestra$Code", "size", "()I"⟩, prog_2_method_3_code, [(0, .aload_n 0), (1, .getfield 18), (4, .ireturn)])
/-- LockOrchestra$Code.add(I)V -/
def am_m3 : am_M := (0, false, 2, 2, none, ⟨"LockOrchestra$Code", "add", "(I)V"⟩, prog_2_method_4_code, [(0, .aload_n 0), (1, .getfield 18), (4, .sipush 1600), (7, .if_icmp .ge 25), (10, .aload_n 0), (11, .getfield 9), (14, .aload_n 0), (15, .getfield 18), (18, .iload_n 1), (19, .invokestatic 25), (22, .aload_n 0), (23, .dup), (24, .getfield 18), (27, .iconst 1), (28, .iadd), (29, .putfield 18), (32, .return_)])
/-- LockOrchestra$Code.valueOf(IILLockOrchestra$Hall;II)I -/
def am_m4 : am_M := (0, false, 6, 10, (some .int), ⟨"LockOrchestra$Code", "valueOf", "(IILLockOrchestra$Hall;II)I"⟩, prog_2_method_5_code, [(0, .aload_n 0), (1, .iconst 0), (2, .putfield 22), (5, .iload_n 1), (6, .istore 6), (8, .iload 6), (10, .iload_n 2), (11, .if_icmp .ge 136), (14, .aload_n 0), (15, .getfield 9), (18, .iload 6), (20, .invokestatic 29), (23, .istore 7), (25, .iload 7), (27, .sipush 10000), (30, .if_icmp .ge 12), (33, .aload_n 0), (34, .iload 7), (36, .invokevirtual 33), (39, .goto 102), (42, .iload 7), (44, .sipush 10010), (47, .if_icmp .ge 20), (50, .aload_n 0), (51, .iload 7), (53, .aload_n 3), (54, .iload 4), (56, .iload 5), (58, .invokestatic 37), (61, .invokevirtual 33), (64, .goto 77), (67, .iload 7), (69, .sipush 10020), (72, .if_icmp .ge 24), (75, .aload_n 0), (76, .iload 7), (78, .aload_n 0), (79, .invokevirtual 41), (82, .aload_n 3), (83, .iload 4), (85, .iload 5), (87, .invokestatic 45), (90, .invokevirtual 33), (93, .goto 48), (96, .aload_n 0), (97, .invokevirtual 41), (100, .istore 8), (102, .aload_n 0), (103, .invokevirtual 41), (106, .istore 9), (108, .aload_n 0), (109, .iload 7), (111, .sipush 10030), (114, .if_icmp .ge 15), (117, .iload 7), (119, .iload 9), (121, .iload 8), (123, .invokestatic 49), (126, .goto 12), (129, .iload 7), (131, .iload 9), (133, .iload 8), (135, .invokestatic 53), (138, .invokevirtual 33), (141, .iinc 6 1), (144, .goto (-136)), (147, .aload_n 0), (148, .invokevirtual 41), (151, .ireturn)])
/-- LockOrchestra$Code.push(I)V -/
def am_m5 : am_M := (0, false, 2, 2, none, ⟨"LockOrchestra$Code", "push", "(I)V"⟩, prog_2_method_6_code, [(0, .aload_n 0), (1, .getfield 22), (4, .bipush 64), (6, .if_icmp .ge 25), (9, .aload_n 0), (10, .getfield 15), (13, .aload_n 0), (14, .getfield 22), (17, .iload_n 1), (18, .invokestatic 25), (21, .aload_n 0), (22, .dup), (23, .getfield 22), (26, .iconst 1), (27, .iadd), (28, .putfield 22), (31, .return_)])
/-- LockOrchestra$Code.leaf(ILLockOrchestra$Hall;II)I -/
def am_m6 : am_M := (0, false, 4, 4, (some .int), ⟨"LockOrchestra$Code", "leaf", "(ILLockOrchestra$Hall;II)I"⟩, prog_2_method_8_code, [(0, .iload_n 0), (1, .tableswitch 61 10000 10004 #[35, 37, 46, 48, 54]), (36, .iconst 1), (37, .ireturn), (38, .aload_n 1), (39, .iload_n 2), (40, .invokevirtual 56), (43, .invokestatic 62), (46, .ireturn), (47, .iload_n 3), (48, .ireturn), (49, .aload_n 1), (50, .iload_n 3), (51, .invokevirtual 67), (54, .ireturn), (55, .aload_n 1), (56, .iload_n 2), (57, .iload_n 3), (58, .invokevirtual 70), (61, .ireturn), (62, .aload_n 1), (63, .iload_n 2), (64, .iload_n 3), (65, .invokevirtual 74), (68, .ifCond .eq 7), (71, .iconst 1), (72, .goto 4), (75, .iconst 0), (76, .ireturn)])
/-- LockOrchestra$Code.pop()I -/
def am_m7 : am_M := (0, false, 1, 1, (some .int), ⟨"LockOrchestra$Code", "pop", "()I"⟩, prog_2_method_7_code, [(0, .aload_n 0), (1, .getfield 22), (4, .ifCond .le 13), (7, .aload_n 0), (8, .dup), (9, .getfield 22), (12, .iconst 1), (13, .isub), (14, .putfield 22), (17, .aload_n 0), (18, .getfield 15), (21, .aload_n 0), (22, .getfield 22), (25, .invokestatic 29), (28, .ireturn)])
/-- LockOrchestra$Code.ofOne(IILLockOrchestra$Hall;II)I -/
def am_m8 : am_M := (0, false, 5, 5, (some .int), ⟨"LockOrchestra$Code", "ofOne", "(IILLockOrchestra$Hall;II)I"⟩, prog_2_method_9_code, [(0, .iload_n 0), (1, .lookupswitch 51 #[(10010, 27), (10011, 31)]), (28, .iconst 1), (29, .iload_n 1), (30, .isub), (31, .ireturn), (32, .aload_n 2), (33, .iconst 0), (34, .iload_n 1), (35, .invokevirtual 78), (38, .ifCond .eq 12), (41, .aload_n 2), (42, .iload_n 3), (43, .iload_n 1), (44, .invokevirtual 70), (47, .goto 4), (50, .iconst (-1)), (51, .ireturn), (52, .aload_n 2), (53, .iload_n 1), (54, .iload 4), (56, .invokevirtual 81), (59, .ireturn)])
/-- LockOrchestra$Code.ofTests(III)I -/
def am_m9 : am_M := (0, false, 3, 4, (some .int), ⟨"LockOrchestra$Code", "ofTests", "(III)I"⟩, prog_2_method_10_code, [(0, .iload_n 0), (1, .tableswitch 90 10020 10023 #[31, 46, 62, 76]), (32, .iload_n 1), (33, .iload_n 2), (34, .iadd), (35, .ifCond .le 7), (38, .iconst 1), (39, .goto 4), (42, .iconst 0), (43, .istore_n 3), (44, .goto 58), (47, .iload_n 1), (48, .iload_n 2), (49, .iadd), (50, .iconst 2), (51, .if_icmp .ne 7), (54, .iconst 1), (55, .goto 4), (58, .iconst 0), (59, .istore_n 3), (60, .goto 42), (63, .iload_n 1), (64, .iload_n 2), (65, .if_icmp .ge 7), (68, .iconst 1), (69, .goto 4), (72, .iconst 0), (73, .istore_n 3), (74, .goto 28), (77, .iload_n 1), (78, .iload_n 2), (79, .if_icmp .le 7), (82, .iconst 1), (83, .goto 4), (86, .iconst 0), (87, .istore_n 3), (88, .goto 14), (91, .iload_n 1), (92, .iload_n 2), (93, .if_icmp .ne 7), (96, .iconst 1), (97, .goto 4), (100, .iconst 0), (101, .istore_n 3), (102, .iload_n 3), (103, .ifCond .eq 7), (106, .iconst 1), (107, .goto 4), (110, .iconst 0), (111, .ireturn)])
/-- LockOrchestra$Code.ofSums(III)I -/
def am_m10 : am_M := (0, false, 3, 3, (some .int), ⟨"LockOrchestra$Code", "ofSums", "(III)I"⟩, prog_2_method_11_code, [(0, .iload_n 0), (1, .tableswitch 82 10030 10034 #[35, 44, 53, 62, 76]), (36, .iload_n 1), (37, .i2l), (38, .iload_n 2), (39, .i2l), (40, .ladd), (41, .invokestatic 84), (44, .ireturn), (45, .iload_n 1), (46, .i2l), (47, .iload_n 2), (48, .i2l), (49, .lsub), (50, .invokestatic 84), (53, .ireturn), (54, .iload_n 1), (55, .i2l), (56, .iload_n 2), (57, .i2l), (58, .lmul), (59, .invokestatic 84), (62, .ireturn), (63, .iload_n 2), (64, .ifCond .ne 7), (67, .iconst 0), (68, .goto 8), (71, .iload_n 1), (72, .iload_n 2), (73, .invokestatic 88), (76, .ireturn), (77, .iload_n 1), (78, .iload_n 2), (79, .invokestatic 93), (82, .ireturn), (83, .iload_n 1), (84, .iload_n 2), (85, .invokestatic 96), (88, .ireturn)])
/-- LockOrchestra$Code.within(J)I -/
def am_m11 : am_M := (0, false, 1, 2, (some .int), ⟨"LockOrchestra$Code", "within", "(J)I"⟩, prog_2_method_12_code, [(0, .ldc2_w 99), (3, .ldc2_w 101), (6, .lload_n 0), (7, .invokestatic 103), (10, .invokestatic 106), (13, .l2i), (14, .ireturn)])
/-- LockOrchestra$Hall.<init>()V -/
def am_m12 : am_M := (1, true, 1, 1, none, ⟨"LockOrchestra$Hall", "<init>", "()V"⟩, prog_3_method_1_code, [(0, .aload_n 0), (1, .invokespecial 3), (4, .aload_n 0), (5, .new 9), (8, .dup), (9, .invokespecial 11), (12, .putfield 12), (15, .aload_n 0), (16, .iconst 4), (17, .newarray .int), (19, .putfield 18), (22, .aload_n 0), (23, .bipush 24), (25, .newarray .int), (27, .putfield 22), (30, .aload_n 0), (31, .iconst 4), (32, .newarray .int), (34, .putfield 25), (37, .aload_n 0), (38, .iconst 4), (39, .newarray .int), (41, .putfield 28), (44, .aload_n 0), (45, .iconst 4), (46, .newarray .int), (48, .putfield 31), (51, .aload_n 0), (52, .bipush 24), (54, .newarray .int), (56, .putfield 34), (59, .aload_n 0), (60, .bipush 6), (62, .newarray .int), (64, .putfield 37), (67, .aload_n 0), (68, .iconst 5), (69, .newarray .int), (71, .putfield 40), (74, .aload_n 0), (75, .bipush 6), (77, .newarray .int), (79, .putfield 43), (82, .aload_n 0), (83, .bipush 6), (85, .newarray .int), (87, .putfield 46), (90, .aload_n 0), (91, .sipush 2500), (94, .newarray .int), (96, .putfield 49), (99, .aload_n 0), (100, .iconst 1), (101, .putfield 52), (104, .aload_n 0), (105, .iconst 0), (106, .putfield 56), (109, .aload_n 0), (110, .iconst 0), (111, .putfield 59), (114, .return_)])
/-- LockOrchestra$Hall.clear()V -/
def am_m13 : am_M := (1, false, 1, 1, none, ⟨"LockOrchestra$Hall", "clear", "()V"⟩, prog_3_method_2_code, [(0, .aload_n 0), (1, .getfield 12), (4, .invokevirtual 62), (7, .aload_n 0), (8, .getfield 18), (11, .iconst 0), (12, .invokestatic 65), (15, .aload_n 0), (16, .getfield 34), (19, .iconst 0), (20, .invokestatic 65), (23, .aload_n 0), (24, .getfield 37), (27, .iconst 0), (28, .invokestatic 65), (31, .aload_n 0), (32, .getfield 40), (35, .iconst 0), (36, .invokestatic 65), (39, .aload_n 0), (40, .getfield 49), (43, .iconst 0), (44, .invokestatic 65), (47, .aload_n 0), (48, .iconst 1), (49, .putfield 52), (52, .aload_n 0), (53, .iconst 0), (54, .putfield 56), (57, .aload_n 0), (58, .iconst 0), (59, .putfield 59), (62, .return_)])
/-- LockOrchestra$Hall.isFull(I)Z -/
def am_m14 : am_M := (1, false, 2, 2, (some .boolean), ⟨"LockOrchestra$Hall", "isFull", "(I)Z"⟩, prog_3_method_11_code, [(0, .aload_n 0), (1, .getfield 18), (4, .iload_n 1), (5, .invokestatic 87), (8, .getstatic 91), (11, .iload_n 1), (12, .invokestatic 87), (15, .if_icmp .lt 7), (18, .iconst 1), (19, .goto 4), (22, .iconst 0), (23, .ireturn)])
/-- LockOrchestra$Hall.knows(I)Z -/
def am_m15 : am_M := (1, false, 2, 3, (some .boolean), ⟨"LockOrchestra$Hall", "knows", "(I)Z"⟩, prog_3_method_17_code, [(0, .iconst 0), (1, .istore_n 2), (2, .iload_n 2), (3, .iconst 4), (4, .if_icmp .ge 21), (7, .aload_n 0), (8, .iload_n 2), (9, .iload_n 1), (10, .invokevirtual 97), (13, .iconst (-1)), (14, .if_icmp .eq 5), (17, .iconst 1), (18, .ireturn), (19, .iinc 2 1), (22, .goto (-20)), (25, .iconst 0), (26, .ireturn)])
/-- LockOrchestra$Hall.named(II)I -/
def am_m16 : am_M := (1, false, 3, 4, (some .int), ⟨"LockOrchestra$Hall", "named", "(II)I"⟩, prog_3_method_16_code, [(0, .iconst 0), (1, .istore_n 3), (2, .iload_n 3), (3, .aload_n 0), (4, .getfield 18), (7, .iload_n 1), (8, .invokestatic 87), (11, .if_icmp .ge 28), (14, .aload_n 0), (15, .getfield 22), (18, .iload_n 1), (19, .bipush 6), (21, .imul), (22, .iload_n 3), (23, .iadd), (24, .invokestatic 87), (27, .iload_n 2), (28, .if_icmp .ne 5), (31, .iload_n 3), (32, .ireturn), (33, .iinc 3 1), (36, .goto (-34)), (39, .iconst (-1)), (40, .ireturn)])
/-- LockOrchestra$Hall.addOne(II)I -/
def am_m17 : am_M := (1, false, 3, 4, (some .int), ⟨"LockOrchestra$Hall", "addOne", "(II)I"⟩, prog_3_method_3_code, [(0, .aload_n 0), (1, .iload_n 1), (2, .invokevirtual 71), (5, .istore_n 3), (6, .aload_n 0), (7, .iload_n 1), (8, .invokevirtual 75), (11, .ifCond .eq 5), (14, .iconst (-1)), (15, .ireturn), (16, .aload_n 0), (17, .getfield 22), (20, .iload_n 1), (21, .bipush 6), (23, .imul), (24, .iload_n 3), (25, .iadd), (26, .iload_n 2), (27, .invokestatic 79), (30, .aload_n 0), (31, .getfield 18), (34, .iload_n 1), (35, .iload_n 3), (36, .iconst 1), (37, .iadd), (38, .invokestatic 79), (41, .iload_n 3), (42, .ireturn)])
/-- LockOrchestra$Hall.count(I)I -/
def am_m18 : am_M := (1, false, 2, 2, (some .int), ⟨"LockOrchestra$Hall", "count", "(I)I"⟩, prog_3_method_10_code, [(0, .aload_n 0), (1, .getfield 18), (4, .iload_n 1), (5, .invokestatic 87), (8, .ireturn)])
/-- LockOrchestra$Hall.tellLock(IIII)V -/
def am_m19 : am_M := (1, false, 5, 5, none, ⟨"LockOrchestra$Hall", "tellLock", "(IIII)V"⟩, prog_3_method_4_code, [(0, .aload_n 0), (1, .iconst 0), (2, .iload_n 1), (3, .invokevirtual 83), (6, .ifCond .ne 4), (9, .return_), (10, .aload_n 0), (11, .getfield 25), (14, .iload_n 1), (15, .iload_n 2), (16, .invokestatic 79), (19, .aload_n 0), (20, .getfield 28), (23, .iload_n 1), (24, .iload 4), (26, .invokestatic 79), (29, .aload_n 0), (30, .getfield 31), (33, .iload_n 1), (34, .aload_n 0), (35, .getfield 52), (38, .invokestatic 79), (41, .aload_n 0), (42, .dup), (43, .getfield 56), (46, .iload_n 3), (47, .aload_n 0), (48, .getfield 52), (51, .imul), (52, .iadd), (53, .putfield 56), (56, .aload_n 0), (57, .dup), (58, .getfield 52), (61, .iload_n 2), (62, .imul), (63, .putfield 52), (66, .return_)])
/-- LockOrchestra$Hall.isOne(II)Z -/
def am_m20 : am_M := (1, false, 3, 3, (some .boolean), ⟨"LockOrchestra$Hall", "isOne", "(II)Z"⟩, prog_3_method_12_code, [(0, .iload_n 1), (1, .ifCond .lt 28), (4, .iload_n 1), (5, .iconst 4), (6, .if_icmp .ge 23), (9, .iload_n 2), (10, .ifCond .lt 19), (13, .iload_n 2), (14, .aload_n 0), (15, .getfield 18), (18, .iload_n 1), (19, .invokestatic 87), (22, .if_icmp .ge 7), (25, .iconst 1), (26, .goto 4), (29, .iconst 0), (30, .ireturn)])
/-- LockOrchestra$Hall.tellTurn(III)V -/
def am_m21 : am_M := (1, false, 4, 4, none, ⟨"LockOrchestra$Hall", "tellTurn", "(III)V"⟩, prog_3_method_5_code, [(0, .aload_n 0), (1, .getfield 34), (4, .iload_n 1), (5, .iconst 4), (6, .imul), (7, .iload_n 2), (8, .iadd), (9, .iload_n 3), (10, .invokestatic 79), (13, .aload_n 0), (14, .getfield 37), (17, .iload_n 1), (18, .aload_n 0), (19, .getfield 37), (22, .iload_n 1), (23, .invokestatic 87), (26, .iconst 1), (27, .iload_n 2), (28, .ishl), (29, .ior), (30, .invokestatic 79), (33, .return_)])
/-- LockOrchestra$Hall.code()LLockOrchestra$Code; -/
def am_m22 : am_M := (1, false, 1, 1, (some (.object "LockOrchestra$Code")), ⟨"LockOrchestra$Hall", "code", "()LLockOrchestra$Code;"⟩, prog_3_method_9_code, [(0, .aload_n 0), (1, .getfield 12), (4, .areturn)])
/-- LockOrchestra$Hall.tellDoor(III)V -/
def am_m23 : am_M := (1, false, 4, 4, none, ⟨"LockOrchestra$Hall", "tellDoor", "(III)V"⟩, prog_3_method_7_code, [(0, .aload_n 0), (1, .getfield 43), (4, .iload_n 1), (5, .iload_n 2), (6, .invokestatic 79), (9, .aload_n 0), (10, .getfield 46), (13, .iload_n 1), (14, .iload_n 3), (15, .invokestatic 79), (18, .return_)])
/-- LockOrchestra$Hall.tellPlays(II)V -/
def am_m24 : am_M := (1, false, 3, 3, none, ⟨"LockOrchestra$Hall", "tellPlays", "(II)V"⟩, prog_3_method_6_code, [(0, .aload_n 0), (1, .getfield 40), (4, .iload_n 1), (5, .aload_n 0), (6, .getfield 40), (9, .iload_n 1), (10, .invokestatic 87), (13, .iconst 1), (14, .iload_n 2), (15, .ishl), (16, .ior), (17, .invokestatic 79), (20, .return_)])
/-- LockOrchestra$Hall.tellRust(I)V -/
def am_m25 : am_M := (1, false, 2, 2, none, ⟨"LockOrchestra$Hall", "tellRust", "(I)V"⟩, prog_3_method_8_code, [(0, .aload_n 0), (1, .iload_n 1), (2, .putfield 59), (5, .return_)])
/-- LockOrchestra$Hall.firstState()I -/
def am_m26 : am_M := (1, false, 1, 1, (some .int), ⟨"LockOrchestra$Hall", "firstState", "()I"⟩, prog_3_method_25_code, [(0, .aload_n 0), (1, .getfield 56), (4, .ireturn)])
/-- LockOrchestra$Hall.rust()I -/
def am_m27 : am_M := (1, false, 1, 1, (some .int), ⟨"LockOrchestra$Hall", "rust", "()I"⟩, prog_3_method_23_code, [(0, .aload_n 0), (1, .getfield 59), (4, .ireturn)])
/-- LockOrchestra$Hall.jamsOf(I)I -/
def am_m28 : am_M := (1, false, 2, 2, (some .int), ⟨"LockOrchestra$Hall", "jamsOf", "(I)I"⟩, prog_3_method_26_code, [(0, .aload_n 0), (1, .getfield 52), (4, .ifCond .le 12), (7, .iload_n 1), (8, .aload_n 0), (9, .getfield 52), (12, .idiv), (13, .goto 4), (16, .iconst 0), (17, .ireturn)])
/-- LockOrchestra$Hall.openDoors(I)I -/
def am_m29 : am_M := (1, false, 2, 6, (some .int), ⟨"LockOrchestra$Hall", "openDoors", "(I)I"⟩, prog_3_method_34_code, [(0, .bipush 8), (2, .iload_n 1), (3, .iconst 3), (4, .iand), (5, .imul), (6, .istore_n 2), (7, .aload_n 0), (8, .getfield 49), (11, .iload_n 1), (12, .iconst 4), (13, .idiv), (14, .invokestatic 87), (17, .iload_n 2), (18, .iushr), (19, .sipush 255), (22, .iand), (23, .istore_n 3), (24, .iload_n 3), (25, .ifCond .ne 87), (28, .bipush 64), (30, .istore_n 3), (31, .iconst 0), (32, .istore 4), (34, .iload 4), (36, .aload_n 0), (37, .iconst 2), (38, .invokevirtual 71), (41, .if_icmp .ge 47), (44, .aload_n 0), (45, .getfield 12), (48, .aload_n 0), (49, .getfield 43), (52, .iload 4), (54, .invokestatic 87), (57, .aload_n 0), (58, .getfield 46), (61, .iload 4), (63, .invokestatic 87), (66, .aload_n 0), (67, .iload_n 1), (68, .iconst (-1)), (69, .invokevirtual 129), (72, .istore 5), (74, .iload_n 3), (75, .iload 5), (77, .iload 4), (79, .ishl), (80, .ior), (81, .istore_n 3), (82, .iinc 4 1), (85, .goto (-51)), (88, .aload_n 0), (89, .getfield 49), (92, .iload_n 1), (93, .iconst 4), (94, .idiv), (95, .aload_n 0), (96, .getfield 49), (99, .iload_n 1), (100, .iconst 4), (101, .idiv), (102, .invokestatic 87), (105, .iload_n 3), (106, .iload_n 2), (107, .ishl), (108, .ior), (109, .invokestatic 79), (112, .iload_n 3), (113, .bipush (-65)), (115, .iand), (116, .ireturn)])
/-- LockOrchestra$Hall.wardsOf(I)I -/
def am_m30 : am_M := (1, false, 2, 2, (some .int), ⟨"LockOrchestra$Hall", "wardsOf", "(I)I"⟩, prog_3_method_18_code, [(0, .aload_n 0), (1, .getfield 25), (4, .iload_n 1), (5, .invokestatic 87), (8, .ireturn)])
/-- LockOrchestra$Hall.wardOf(II)I -/
def am_m31 : am_M := (1, false, 3, 5, (some .int), ⟨"LockOrchestra$Hall", "wardOf", "(II)I"⟩, prog_3_method_28_code, [(0, .aload_n 0), (1, .getfield 25), (4, .iload_n 2), (5, .invokestatic 87), (8, .istore_n 3), (9, .aload_n 0), (10, .getfield 31), (13, .iload_n 2), (14, .invokestatic 87), (17, .istore 4), (19, .iload_n 3), (20, .ifCond .le 17), (23, .iload 4), (25, .ifCond .le 12), (28, .iload_n 1), (29, .iload 4), (31, .idiv), (32, .iload_n 3), (33, .irem), (34, .goto 4), (37, .iconst 0), (38, .ireturn)])
/-- LockOrchestra$Hall.isJammed(II)Z -/
def am_m32 : am_M := (1, false, 3, 3, (some .boolean), ⟨"LockOrchestra$Hall", "isJammed", "(II)Z"⟩, prog_3_method_27_code, [(0, .aload_n 0), (1, .iload_n 1), (2, .invokevirtual 104), (5, .iload_n 2), (6, .ishr), (7, .iconst 1), (8, .iand), (9, .iconst 1), (10, .if_icmp .ne 7), (13, .iconst 1), (14, .goto 4), (17, .iconst 0), (18, .ireturn)])
/-- LockOrchestra$Hall.turnOf(II)I -/
def am_m33 : am_M := (1, false, 3, 4, (some .int), ⟨"LockOrchestra$Hall", "turnOf", "(II)I"⟩, prog_3_method_20_code, [(0, .iload_n 1), (1, .ifCond .lt 22), (4, .iload_n 1), (5, .bipush 6), (7, .if_icmp .ge 16), (10, .iload_n 2), (11, .ifCond .lt 12), (14, .iload_n 2), (15, .iconst 4), (16, .if_icmp .ge 7), (19, .iconst 1), (20, .goto 4), (23, .iconst 0), (24, .istore_n 3), (25, .iload_n 3), (26, .ifCond .eq 18), (29, .aload_n 0), (30, .getfield 34), (33, .iload_n 1), (34, .iconst 4), (35, .imul), (36, .iload_n 2), (37, .iadd), (38, .invokestatic 87), (41, .goto 4), (44, .iconst 0), (45, .ireturn)])
/-- LockOrchestra$Hall.nameOf(II)I -/
def am_m34 : am_M := (1, false, 3, 3, (some .int), ⟨"LockOrchestra$Hall", "nameOf", "(II)I"⟩, prog_3_method_15_code, [(0, .aload_n 0), (1, .getfield 22), (4, .iload_n 1), (5, .bipush 6), (7, .imul), (8, .iload_n 2), (9, .iadd), (10, .invokestatic 87), (13, .ireturn)])
/-- LockOrchestra$Hall.jamWardOf(I)I -/
def am_m35 : am_M := (1, false, 2, 2, (some .int), ⟨"LockOrchestra$Hall", "jamWardOf", "(I)I"⟩, prog_3_method_19_code, [(0, .aload_n 0), (1, .getfield 28), (4, .iload_n 1), (5, .invokestatic 87), (8, .ireturn)])
/-- LockOrchestra$Hall.canPlay(II)Z -/
def am_m36 : am_M := (1, false, 3, 3, (some .boolean), ⟨"LockOrchestra$Hall", "canPlay", "(II)Z"⟩, prog_3_method_32_code, [(0, .iload_n 2), (1, .bipush 6), (3, .if_icmp .ne 5), (6, .iconst 1), (7, .ireturn), (8, .aload_n 0), (9, .iconst 1), (10, .iload_n 2), (11, .invokevirtual 83), (14, .ifCond .eq 24), (17, .aload_n 0), (18, .getfield 37), (21, .iload_n 2), (22, .invokestatic 87), (25, .aload_n 0), (26, .iload_n 1), (27, .invokevirtual 104), (30, .iand), (31, .ifCond .ne 7), (34, .iconst 1), (35, .goto 4), (38, .iconst 0), (39, .ireturn)])
/-- LockOrchestra$Hall.playersOf(I)I -/
def am_m37 : am_M := (1, false, 2, 4, (some .int), ⟨"LockOrchestra$Hall", "playersOf", "(I)I"⟩, prog_3_method_22_code, [(0, .iconst 0), (1, .istore_n 2), (2, .iconst 0), (3, .istore_n 3), (4, .iload_n 3), (5, .aload_n 0), (6, .iconst 3), (7, .invokevirtual 71), (10, .if_icmp .ge 23), (13, .iload_n 2), (14, .aload_n 0), (15, .iload_n 3), (16, .invokevirtual 101), (19, .iload_n 1), (20, .ishr), (21, .iconst 1), (22, .iand), (23, .iload_n 3), (24, .ishl), (25, .ior), (26, .istore_n 2), (27, .iinc 3 1), (30, .goto (-26)), (33, .iload_n 2), (34, .ireturn)])
/-- LockOrchestra$Hall.notesOf(I)I -/
def am_m38 : am_M := (1, false, 2, 2, (some .int), ⟨"LockOrchestra$Hall", "notesOf", "(I)I"⟩, prog_3_method_21_code, [(0, .aload_n 0), (1, .getfield 40), (4, .iload_n 1), (5, .invokestatic 87), (8, .ireturn)])
/-- LockOrchestra$Hall.after(II)I -/
def am_m39 : am_M := (1, false, 3, 8, (some .int), ⟨"LockOrchestra$Hall", "after", "(II)I"⟩, prog_3_method_33_code, [(0, .iload_n 1), (1, .istore_n 3), (2, .iconst 0), (3, .istore 4), (5, .iload 4), (7, .aload_n 0), (8, .iconst 0), (9, .invokevirtual 71), (12, .if_icmp .ge 84), (15, .aload_n 0), (16, .iload_n 2), (17, .iload 4), (19, .invokevirtual 113), (22, .istore 5), (24, .aload_n 0), (25, .iload 4), (27, .invokevirtual 116), (30, .istore 6), (32, .iload 5), (34, .ifCond .le 56), (37, .iload 6), (39, .ifCond .le 51), (42, .aload_n 0), (43, .iload_n 1), (44, .iload 4), (46, .invokevirtual 107), (49, .iload 5), (51, .iadd), (52, .iload 6), (54, .irem), (55, .istore 7), (57, .aload_n 0), (58, .iload_n 3), (59, .iload 4), (61, .iload 7), (63, .invokevirtual 119), (66, .istore_n 3), (67, .iload 7), (69, .aload_n 0), (70, .iload 4), (72, .invokevirtual 123), (75, .if_icmp .ne 13), (78, .aload_n 0), (79, .iload_n 3), (80, .iload 4), (82, .invokevirtual 126), (85, .goto 4), (88, .iload_n 3), (89, .istore_n 3), (90, .iinc 4 1), (93, .goto (-88)), (96, .iload_n 3), (97, .ireturn)])
/-- LockOrchestra$Hall.withWard(III)I -/
def am_m40 : am_M := (1, false, 4, 4, (some .int), ⟨"LockOrchestra$Hall", "withWard", "(III)I"⟩, prog_3_method_29_code, [(0, .iload_n 1), (1, .iload_n 3), (2, .aload_n 0), (3, .iload_n 1), (4, .iload_n 2), (5, .invokevirtual 107), (8, .isub), (9, .aload_n 0), (10, .getfield 31), (13, .iload_n 2), (14, .invokestatic 87), (17, .imul), (18, .iadd), (19, .ireturn)])
/-- LockOrchestra$Hall.withJam(II)I -/
def am_m41 : am_M := (1, false, 3, 3, (some .int), ⟨"LockOrchestra$Hall", "withJam", "(II)I"⟩, prog_3_method_30_code, [(0, .aload_n 0), (1, .iload_n 1), (2, .iload_n 2), (3, .invokevirtual 110), (6, .ifCond .eq 7), (9, .iload_n 1), (10, .goto 11), (13, .iload_n 1), (14, .aload_n 0), (15, .getfield 52), (18, .iload_n 2), (19, .ishl), (20, .iadd), (21, .ireturn)])
/-- LockOrchestra$Hall.areDoors(I)Z -/
def am_m42 : am_M := (1, false, 2, 2, (some .boolean), ⟨"LockOrchestra$Hall", "areDoors", "(I)Z"⟩, prog_3_method_14_code, [(0, .iload_n 1), (1, .ifCond .lt 16), (4, .iload_n 1), (5, .aload_n 0), (6, .iconst 2), (7, .invokevirtual 94), (10, .if_icmp .gt 7), (13, .iconst 1), (14, .goto 4), (17, .iconst 0), (18, .ireturn)])
/-- LockOrchestra$Hall.bitsOfAll(I)I -/
def am_m43 : am_M := (1, false, 2, 2, (some .int), ⟨"LockOrchestra$Hall", "bitsOfAll", "(I)I"⟩, prog_3_method_13_code, [(0, .iconst 1), (1, .aload_n 0), (2, .iload_n 1), (3, .invokevirtual 71), (6, .ishl), (7, .iconst 1), (8, .isub), (9, .ireturn)])
/-- LockOrchestra$Hall.ways()I -/
def am_m44 : am_M := (1, false, 1, 1, (some .int), ⟨"LockOrchestra$Hall", "ways", "()I"⟩, prog_3_method_24_code, [(0, .aload_n 0), (1, .getfield 52), (4, .ireturn)])
/-- LockOrchestra$Hall.withoutJam(II)I -/
def am_m45 : am_M := (1, false, 3, 3, (some .int), ⟨"LockOrchestra$Hall", "withoutJam", "(II)I"⟩, prog_3_method_31_code, [(0, .aload_n 0), (1, .iload_n 1), (2, .iload_n 2), (3, .invokevirtual 110), (6, .ifCond .eq 14), (9, .iload_n 1), (10, .aload_n 0), (11, .getfield 52), (14, .iload_n 2), (15, .ishl), (16, .isub), (17, .goto 4), (20, .iload_n 1), (21, .ireturn)])
/-- LockOrchestra$HallReader.<init>(LLockOrchestra$Words;)V -/
def am_m46 : am_M := (2, true, 2, 2, none, ⟨"LockOrchestra$HallReader", "<init>", "(LLockOrchestra$Words;)V"⟩, prog_4_method_1_code, [(0, .aload_n 0), (1, .invokespecial 3), (4, .aload_n 0), (5, .aload_n 1), (6, .putfield 9), (9, .aload_n 0), (10, .new 15), (13, .dup), (14, .aload_n 1), (15, .iconst 0), (16, .invokespecial 17), (19, .putfield 20), (22, .return_)])
/-- LockOrchestra$HallReader.readInto(LLockOrchestra$Hall;)I -/
def am_m47 : am_M := (2, false, 2, 3, (some .int), ⟨"LockOrchestra$HallReader", "readInto", "(LLockOrchestra$Hall;)I"⟩, prog_4_method_2_code, [(0, .aload_n 1), (1, .invokevirtual 24), (4, .aload_n 0), (5, .getfield 9), (8, .invokevirtual 29), (11, .iconst 0), (12, .istore_n 2), (13, .iload_n 2), (14, .bipush 60), (16, .if_icmp .ge 131), (19, .aload_n 0), (20, .getfield 9), (23, .invokevirtual 34), (26, .ifCond .ne 121), (29, .aload_n 0), (30, .getfield 9), (33, .ldc 38), (35, .invokevirtual 40), (38, .ifCond .eq 11), (41, .aload_n 0), (42, .aload_n 1), (43, .invokevirtual 44), (46, .goto 86), (49, .aload_n 0), (50, .getfield 9), (53, .ldc 48), (55, .invokevirtual 40), (58, .ifCond .eq 11), (61, .aload_n 0), (62, .aload_n 1), (63, .invokevirtual 50), (66, .goto 66), (69, .aload_n 0), (70, .getfield 9), (73, .ldc 53), (75, .invokevirtual 40), (78, .ifCond .eq 11), (81, .aload_n 0), (82, .aload_n 1), (83, .invokevirtual 55), (86, .goto 46), (89, .aload_n 0), (90, .getfield 9), (93, .ldc 58), (95, .invokevirtual 40), (98, .ifCond .eq 11), (101, .aload_n 0), (102, .aload_n 1), (103, .invokevirtual 60), (106, .goto 26), (109, .aload_n 0), (110, .getfield 9), (113, .ldc 63), (115, .invokevirtual 65), (118, .aload_n 1), (119, .aload_n 0), (120, .getfield 9), (123, .iconst 0), (124, .bipush 100), (126, .invokevirtual 69), (129, .invokevirtual 73), (132, .aload_n 0), (133, .getfield 9), (136, .bipush 59), (138, .invokevirtual 77), (141, .iinc 2 1), (144, .goto (-131)), (147, .aload_n 0), (148, .getfield 9), (151, .invokevirtual 34), (154, .ifCond .ne 11), (157, .aload_n 0), (158, .getfield 9), (161, .iconst 5), (162, .invokevirtual 81), (165, .aload_n 0), (166, .getfield 9), (169, .invokevirtual 84), (172, .ifCond .ne 7), (175, .iload_n 2), (176, .goto 4), (179, .iconst (-1)), (180, .ireturn)])
/-- LockOrchestra$HallReader.readLock(LLockOrchestra$Hall;)V -/
def am_m48 : am_M := (2, false, 2, 6, none, ⟨"LockOrchestra$HallReader", "readLock", "(LLockOrchestra$Hall;)V"⟩, prog_4_method_5_code, [(0, .aload_n 0), (1, .aload_n 1), (2, .iconst 0), (3, .invokevirtual 107), (6, .istore_n 2), (7, .aload_n 0), (8, .getfield 9), (11, .ldc 111), (13, .invokevirtual 65), (16, .aload_n 0), (17, .getfield 9), (20, .iconst 2), (21, .iconst 5), (22, .invokevirtual 69), (25, .istore_n 3), (26, .aload_n 0), (27, .getfield 9), (30, .ldc 113), (32, .invokevirtual 65), (35, .aload_n 0), (36, .getfield 9), (39, .iconst 0), (40, .iload_n 3), (41, .iconst 1), (42, .isub), (43, .invokevirtual 69), (46, .istore 4), (48, .aload_n 0), (49, .getfield 9), (52, .ldc 115), (54, .invokevirtual 117), (57, .ifCond .eq 17), (60, .aload_n 0), (61, .getfield 9), (64, .iconst 0), (65, .iload_n 3), (66, .iconst 1), (67, .isub), (68, .invokevirtual 69), (71, .goto 4), (74, .iconst (-1)), (75, .istore 5), (77, .aload_n 1), (78, .iload_n 2), (79, .iload_n 3), (80, .iload 4), (82, .iload 5), (84, .invokevirtual 120), (87, .return_)])
/-- LockOrchestra$HallReader.readNew(LLockOrchestra$Hall;I)I -/
def am_m49 : am_M := (2, false, 3, 4, (some .int), ⟨"LockOrchestra$HallReader", "readNew", "(LLockOrchestra$Hall;I)I"⟩, prog_4_method_3_code, [(0, .aload_n 1), (1, .iload_n 2), (2, .invokevirtual 88), (5, .ifCond .eq 11), (8, .aload_n 0), (9, .getfield 9), (12, .iconst 5), (13, .invokevirtual 81), (16, .aload_n 0), (17, .getfield 9), (20, .invokevirtual 92), (23, .aload_n 0), (24, .getfield 9), (27, .invokevirtual 95), (30, .istore_n 3), (31, .aload_n 1), (32, .iload_n 3), (33, .invokevirtual 98), (36, .ifCond .eq 11), (39, .aload_n 0), (40, .getfield 9), (43, .iconst 3), (44, .invokevirtual 81), (47, .aload_n 0), (48, .getfield 9), (51, .invokevirtual 92), (54, .aload_n 0), (55, .getfield 9), (58, .invokevirtual 84), (61, .ifCond .ne 12), (64, .aload_n 1), (65, .iload_n 2), (66, .iload_n 3), (67, .invokevirtual 101), (70, .goto 4), (73, .iconst (-1)), (74, .ireturn)])
/-- LockOrchestra$HallReader.readNote(LLockOrchestra$Hall;)V -/
def am_m50 : am_M := (2, false, 2, 7, none, ⟨"LockOrchestra$HallReader", "readNote", "(LLockOrchestra$Hall;)V"⟩, prog_4_method_6_code, [(0, .aload_n 0), (1, .aload_n 1), (2, .iconst 1), (3, .invokevirtual 107), (6, .istore_n 2), (7, .aload_n 0), (8, .getfield 9), (11, .ldc 124), (13, .invokevirtual 65), (16, .iconst 0), (17, .istore_n 3), (18, .iconst 0), (19, .istore 4), (21, .iload 4), (23, .iconst 4), (24, .if_icmp .gt 70), (27, .iload 4), (29, .ifCond .eq 13), (32, .aload_n 0), (33, .getfield 9), (36, .invokevirtual 126), (39, .ifCond .eq 55), (42, .aload_n 0), (43, .aload_n 1), (44, .iconst 0), (45, .iload_n 3), (46, .invokevirtual 129), (49, .istore 5), (51, .aload_n 0), (52, .getfield 9), (55, .iconst 1), (56, .iconst 4), (57, .invokevirtual 69), (60, .istore 6), (62, .aload_n 0), (63, .getfield 9), (66, .invokevirtual 84), (69, .ifCond .ne 19), (72, .aload_n 1), (73, .iload_n 2), (74, .iload 5), (76, .iload 6), (78, .invokevirtual 133), (81, .iload_n 3), (82, .iconst 1), (83, .iload 5), (85, .ishl), (86, .ior), (87, .istore_n 3), (88, .iinc 4 1), (91, .goto (-70)), (94, .return_)])
/-- LockOrchestra$HallReader.readKnown(LLockOrchestra$Hall;II)I -/
def am_m51 : am_M := (2, false, 4, 5, (some .int), ⟨"LockOrchestra$HallReader", "readKnown", "(LLockOrchestra$Hall;II)I"⟩, prog_4_method_4_code, [(0, .aload_n 1), (1, .iload_n 2), (2, .aload_n 0), (3, .getfield 9), (6, .invokevirtual 95), (9, .invokevirtual 104), (12, .istore 4), (14, .iload 4), (16, .iconst (-1)), (17, .if_icmp .eq 13), (20, .iload_n 3), (21, .iload 4), (23, .ishr), (24, .iconst 1), (25, .iand), (26, .iconst 1), (27, .if_icmp .ne 11), (30, .aload_n 0), (31, .getfield 9), (34, .iconst 3), (35, .invokevirtual 81), (38, .aload_n 0), (39, .getfield 9), (42, .invokevirtual 92), (45, .iload 4), (47, .ireturn)])
/-- LockOrchestra$HallReader.readDoor(LLockOrchestra$Hall;)V -/
def am_m52 : am_M := (2, false, 2, 4, none, ⟨"LockOrchestra$HallReader", "readDoor", "(LLockOrchestra$Hall;)V"⟩, prog_4_method_7_code, [(0, .aload_n 0), (1, .aload_n 1), (2, .iconst 2), (3, .invokevirtual 107), (6, .istore_n 2), (7, .aload_n 0), (8, .getfield 9), (11, .ldc 137), (13, .invokevirtual 65), (16, .aload_n 1), (17, .invokevirtual 139), (20, .invokevirtual 143), (23, .istore_n 3), (24, .aload_n 0), (25, .getfield 20), (28, .aload_n 1), (29, .invokevirtual 139), (32, .iconst 0), (33, .invokevirtual 148), (36, .aload_n 1), (37, .iload_n 2), (38, .iload_n 3), (39, .aload_n 1), (40, .invokevirtual 139), (43, .invokevirtual 143), (46, .invokevirtual 152), (49, .return_)])
/-- LockOrchestra$HallReader.readPlayer(LLockOrchestra$Hall;)V -/
def am_m53 : am_M := (2, false, 2, 6, none, ⟨"LockOrchestra$HallReader", "readPlayer", "(LLockOrchestra$Hall;)V"⟩, prog_4_method_8_code, [(0, .aload_n 0), (1, .aload_n 1), (2, .iconst 3), (3, .invokevirtual 107), (6, .istore_n 2), (7, .aload_n 0), (8, .getfield 9), (11, .ldc 155), (13, .invokevirtual 65), (16, .iconst 0), (17, .istore_n 3), (18, .iconst 0), (19, .istore 4), (21, .iload 4), (23, .bipush 6), (25, .if_icmp .gt 57), (28, .iload 4), (30, .ifCond .eq 13), (33, .aload_n 0), (34, .getfield 9), (37, .invokevirtual 126), (40, .ifCond .eq 42), (43, .aload_n 0), (44, .aload_n 1), (45, .iconst 1), (46, .iload_n 3), (47, .invokevirtual 129), (50, .istore 5), (52, .aload_n 0), (53, .getfield 9), (56, .invokevirtual 84), (59, .ifCond .ne 17), (62, .aload_n 1), (63, .iload_n 2), (64, .iload 5), (66, .invokevirtual 157), (69, .iload_n 3), (70, .iconst 1), (71, .iload 5), (73, .ishl), (74, .ior), (75, .istore_n 3), (76, .iinc 4 1), (79, .goto (-58)), (82, .return_)])
/-- LockOrchestra$Heard.<init>()V -/
def am_m54 : am_M := (3, true, 1, 1, none, ⟨"LockOrchestra$Heard", "<init>", "()V"⟩, prog_5_method_1_code, [(0, .aload_n 0), (1, .invokespecial 3), (4, .aload_n 0), (5, .bipush 20), (7, .newarray .int), (9, .putfield 9), (12, .aload_n 0), (13, .bipush 20), (15, .newarray .int), (17, .putfield 15), (20, .aload_n 0), (21, .iconst 0), (22, .putfield 18), (25, .return_)])
/-- LockOrchestra$Heard.forget()V -/
def am_m55 : am_M := (3, false, 1, 1, none, ⟨"LockOrchestra$Heard", "forget", "()V"⟩, prog_5_method_2_code, [(0, .aload_n 0), (1, .iconst 0), (2, .putfield 18), (5, .return_)])
/-- LockOrchestra$Heard.rows()I -/
def am_m56 : am_M := (3, false, 1, 1, (some .int), ⟨"LockOrchestra$Heard", "rows", "()I"⟩, prog_5_method_3_code, [(0, .aload_n 0), (1, .getfield 18), (4, .ireturn)])
/-- LockOrchestra$Heard.take(LLockOrchestra$Tape;LLockOrchestra$Hall;)Z -/
def am_m57 : am_M := (3, false, 3, 7, (some .boolean), ⟨"LockOrchestra$Heard", "take", "(LLockOrchestra$Tape;LLockOrchestra$Hall;)Z"⟩, prog_5_method_4_code, [(0, .aload_n 1), (1, .invokevirtual 22), (4, .iconst 2), (5, .idiv), (6, .istore_n 3), (7, .iload_n 3), (8, .iconst 1), (9, .if_icmp .lt 22), (12, .iload_n 3), (13, .bipush 20), (15, .if_icmp .gt 16), (18, .aload_n 1), (19, .invokevirtual 22), (22, .iconst 2), (23, .irem), (24, .ifCond .ne 7), (27, .iconst 1), (28, .goto 4), (31, .iconst 0), (32, .istore 4), (34, .iconst 0), (35, .istore 5), (37, .iload 5), (39, .iload_n 3), (40, .if_icmp .ge 65), (43, .iload 4), (45, .ifCond .eq 60), (48, .aload_n 1), (49, .iconst 2), (50, .iload 5), (52, .imul), (53, .invokevirtual 28), (56, .istore 6), (58, .iload 6), (60, .bipush 6), (62, .if_icmp .eq 13), (65, .aload_n 2), (66, .iconst 1), (67, .iload 6), (69, .invokevirtual 32), (72, .ifCond .eq 24), (75, .aload_n 2), (76, .aload_n 1), (77, .iconst 2), (78, .iload 5), (80, .imul), (81, .iconst 1), (82, .iadd), (83, .invokevirtual 28), (86, .invokevirtual 38), (89, .ifCond .eq 7), (92, .iconst 1), (93, .goto 4), (96, .iconst 0), (97, .istore 4), (99, .iinc 5 1), (102, .goto (-65)), (105, .iconst 0), (106, .istore 5), (108, .iload 5), (110, .iload_n 3), (111, .if_icmp .ge 50), (114, .iload 4), (116, .ifCond .eq 45), (119, .aload_n 0), (120, .getfield 9), (123, .iload 5), (125, .aload_n 1), (126, .iconst 2), (127, .iload 5), (129, .imul), (130, .invokevirtual 28), (133, .invokestatic 42), (136, .aload_n 0), (137, .getfield 15), (140, .iload 5), (142, .aload_n 1), (143, .iconst 2), (144, .iload 5), (146, .imul), (147, .iconst 1), (148, .iadd), (149, .invokevirtual 28), (152, .invokestatic 42), (155, .iinc 5 1), (158, .goto (-50)), (161, .aload_n 0), (162, .iload 4), (164, .ifCond .eq 7), (167, .iload_n 3), (168, .goto 7), (171, .aload_n 0), (172, .getfield 18), (175, .putfield 18), (178, .aload_n 1), (179, .iconst 0), (180, .invokevirtual 46), (183, .iload 4), (185, .ireturn)])
/-- LockOrchestra$Heard.fits(LLockOrchestra$Hall;I)Z -/
def am_m58 : am_M := (3, false, 3, 6, (some .boolean), ⟨"LockOrchestra$Heard", "fits", "(LLockOrchestra$Hall;I)Z"⟩, prog_5_method_5_code, [(0, .iload_n 2), (1, .istore_n 3), (2, .iconst 0), (3, .istore 4), (5, .iload 4), (7, .aload_n 0), (8, .getfield 18), (11, .if_icmp .ge 59), (14, .aload_n 0), (15, .getfield 9), (18, .iload 4), (20, .invokestatic 50), (23, .istore 5), (25, .aload_n 1), (26, .iload_n 3), (27, .iload 5), (29, .invokevirtual 54), (32, .ifCond .ne 5), (35, .iconst 0), (36, .ireturn), (37, .aload_n 1), (38, .iload_n 3), (39, .iload 5), (41, .invokevirtual 57), (44, .istore_n 3), (45, .aload_n 1), (46, .iload_n 3), (47, .invokevirtual 61), (50, .aload_n 0), (51, .getfield 15), (54, .iload 4), (56, .invokestatic 50), (59, .if_icmp .eq 5), (62, .iconst 0), (63, .ireturn), (64, .iinc 4 1), (67, .goto (-62)), (70, .iconst 1), (71, .ireturn)])
/-- LockOrchestra$Piece.<init>()V -/
def am_m59 : am_M := (4, true, 1, 1, none, ⟨"LockOrchestra$Piece", "<init>", "()V"⟩, prog_6_method_1_code, [(0, .aload_n 0), (1, .invokespecial 3), (4, .aload_n 0), (5, .bipush 20), (7, .newarray .int), (9, .putfield 9), (12, .aload_n 0), (13, .iconst 0), (14, .putfield 15), (17, .return_)])
/-- LockOrchestra$Piece.take(LLockOrchestra$Tape;LLockOrchestra$Hall;)Z -/
def am_m60 : am_M := (4, false, 3, 6, (some .boolean), ⟨"LockOrchestra$Piece", "take", "(LLockOrchestra$Tape;LLockOrchestra$Hall;)Z"⟩, prog_6_method_2_code, [(0, .aload_n 0), (1, .iconst 0), (2, .putfield 15), (5, .aload_n 1), (6, .invokevirtual 19), (9, .bipush 20), (11, .if_icmp .gt 7), (14, .iconst 1), (15, .goto 4), (18, .iconst 0), (19, .istore_n 3), (20, .iconst 0), (21, .istore 4), (23, .iload 4), (25, .aload_n 1), (26, .invokevirtual 19), (29, .if_icmp .ge 65), (32, .iload_n 3), (33, .ifCond .eq 61), (36, .aload_n 1), (37, .iload 4), (39, .invokevirtual 24), (42, .istore 5), (44, .iload 5), (46, .bipush 6), (48, .if_icmp .eq 13), (51, .aload_n 2), (52, .iconst 1), (53, .iload 5), (55, .invokevirtual 28), (58, .ifCond .eq 7), (61, .iconst 1), (62, .goto 4), (65, .iconst 0), (66, .istore_n 3), (67, .aload_n 0), (68, .getfield 9), (71, .iload 4), (73, .iload 5), (75, .invokestatic 34), (78, .aload_n 0), (79, .dup), (80, .getfield 15), (83, .iconst 1), (84, .iadd), (85, .putfield 15), (88, .iinc 4 1), (91, .goto (-68)), (94, .aload_n 1), (95, .iconst 0), (96, .invokevirtual 38), (99, .iload_n 3), (100, .ireturn)])
/-- LockOrchestra$Piece.length()I -/
def am_m61 : am_M := (4, false, 1, 1, (some .int), ⟨"LockOrchestra$Piece", "length", "()I"⟩, prog_6_method_3_code, [(0, .aload_n 0), (1, .getfield 15), (4, .ireturn)])
/-- LockOrchestra$Piece.noteAt(I)I -/
def am_m62 : am_M := (4, false, 2, 2, (some .int), ⟨"LockOrchestra$Piece", "noteAt", "(I)I"⟩, prog_6_method_4_code, [(0, .aload_n 0), (1, .getfield 9), (4, .iload_n 1), (5, .invokestatic 42), (8, .ireturn)])
/-- LockOrchestra$Piece.canBeShared(LLockOrchestra$Hall;I)Z -/
def am_m63 : am_M := (4, false, 3, 6, (some .boolean), ⟨"LockOrchestra$Piece", "canBeShared", "(LLockOrchestra$Hall;I)Z"⟩, prog_6_method_6_code, [(0, .iconst 0), (1, .istore_n 3), (2, .iconst 0), (3, .istore 4), (5, .iload 4), (7, .aload_n 0), (8, .getfield 15), (11, .if_icmp .ge 75), (14, .aload_n 1), (15, .aload_n 0), (16, .iload 4), (18, .invokevirtual 46), (21, .invokevirtual 56), (24, .iload_n 2), (25, .iand), (26, .istore 5), (28, .iload_n 3), (29, .invokestatic 59), (32, .iconst 1), (33, .if_icmp .ne 11), (36, .iload 5), (38, .iload_n 3), (39, .iconst (-1)), (40, .ixor), (41, .iand), (42, .istore 5), (44, .aload_n 0), (45, .iload 4), (47, .invokevirtual 46), (50, .bipush 6), (52, .if_icmp .eq 10), (55, .iload 5), (57, .ifCond .ne 5), (60, .iconst 0), (61, .ireturn), (62, .aload_n 0), (63, .iload 4), (65, .invokevirtual 46), (68, .bipush 6), (70, .if_icmp .ne 7), (73, .iconst 0), (74, .goto 5), (77, .iload 5), (79, .istore_n 3), (80, .iinc 4 1), (83, .goto (-78)), (86, .iconst 1), (87, .ireturn)])
/-- LockOrchestra$Piece.endOf(LLockOrchestra$Hall;III)I -/
def am_m64 : am_M := (4, false, 5, 8, (some .int), ⟨"LockOrchestra$Piece", "endOf", "(LLockOrchestra$Hall;III)I"⟩, prog_6_method_5_code, [(0, .iload_n 2), (1, .istore 5), (3, .iconst 0), (4, .istore 6), (6, .iload 6), (8, .aload_n 0), (9, .getfield 15), (12, .if_icmp .ge 51), (15, .iload 6), (17, .iload_n 3), (18, .if_icmp .ne 8), (21, .iload 4), (23, .goto 9), (26, .aload_n 0), (27, .iload 6), (29, .invokevirtual 46), (32, .istore 7), (34, .aload_n 1), (35, .iload 5), (37, .iload 7), (39, .invokevirtual 49), (42, .ifCond .ne 5), (45, .iconst (-1)), (46, .ireturn), (47, .aload_n 1), (48, .iload 5), (50, .iload 7), (52, .invokevirtual 52), (55, .istore 5), (57, .iinc 6 1), (60, .goto (-54)), (63, .iload 5), (65, .ireturn)])
/-- LockOrchestra$Question.<init>(LLockOrchestra$Words;)V -/
def am_m65 : am_M := (5, true, 2, 2, none, ⟨"LockOrchestra$Question", "<init>", "(LLockOrchestra$Words;)V"⟩, prog_7_method_1_code, [(0, .aload_n 0), (1, .invokespecial 3), (4, .aload_n 0), (5, .new 9), (8, .dup), (9, .invokespecial 11), (12, .putfield 12), (15, .aload_n 0), (16, .iconst 0), (17, .putfield 18), (20, .aload_n 0), (21, .aload_n 1), (22, .putfield 22), (25, .aload_n 0), (26, .new 26), (29, .dup), (30, .aload_n 1), (31, .iconst 1), (32, .invokespecial 28), (35, .putfield 31), (38, .return_)])
/-- LockOrchestra$Question.read()Z -/
def am_m66 : am_M := (5, false, 1, 1, (some .boolean), ⟨"LockOrchestra$Question", "read", "()Z"⟩, prog_7_method_2_code, [(0, .aload_n 0), (1, .getfield 22), (4, .invokevirtual 35), (7, .aload_n 0), (8, .getfield 12), (11, .invokevirtual 40), (14, .aload_n 0), (15, .aload_n 0), (16, .invokevirtual 43), (19, .putfield 18), (22, .aload_n 0), (23, .getfield 18), (26, .iconst (-1)), (27, .if_icmp .ne 14), (30, .aload_n 0), (31, .getfield 22), (34, .iconst 1), (35, .invokevirtual 47), (38, .goto 38), (41, .aload_n 0), (42, .getfield 18), (45, .iconst 2), (46, .if_icmp .gt 18), (49, .aload_n 0), (50, .getfield 31), (53, .aload_n 0), (54, .getfield 12), (57, .iconst 0), (58, .invokevirtual 51), (61, .goto 15), (64, .aload_n 0), (65, .getfield 31), (68, .aload_n 0), (69, .getfield 12), (72, .iconst 0), (73, .invokevirtual 55), (76, .aload_n 0), (77, .getfield 22), (80, .invokevirtual 58), (83, .ifCond .ne 11), (86, .aload_n 0), (87, .getfield 22), (90, .iconst 1), (91, .invokevirtual 47), (94, .aload_n 0), (95, .getfield 22), (98, .invokevirtual 62), (101, .ifCond .ne 7), (104, .iconst 1), (105, .goto 4), (108, .iconst 0), (109, .ireturn)])
/-- LockOrchestra$Question.takeAsked()I -/
def am_m67 : am_M := (5, false, 1, 1, (some .int), ⟨"LockOrchestra$Question", "takeAsked", "()I"⟩, prog_7_method_3_code, [(0, .aload_n 0), (1, .getfield 22), (4, .ldc 65), (6, .invokevirtual 67), (9, .ifCond .eq 5), (12, .iconst 0), (13, .ireturn), (14, .aload_n 0), (15, .getfield 22), (18, .ldc 71), (20, .invokevirtual 67), (23, .ifCond .eq 5), (26, .iconst 1), (27, .ireturn), (28, .aload_n 0), (29, .getfield 22), (32, .ldc 73), (34, .invokevirtual 67), (37, .ifCond .eq 5), (40, .iconst 2), (41, .ireturn), (42, .aload_n 0), (43, .getfield 22), (46, .ldc 75), (48, .invokevirtual 67), (51, .ifCond .eq 5), (54, .iconst 3), (55, .ireturn), (56, .aload_n 0), (57, .getfield 22), (60, .ldc 77), (62, .invokevirtual 67), (65, .ifCond .eq 5), (68, .iconst 4), (69, .ireturn), (70, .aload_n 0), (71, .getfield 22), (74, .ldc 79), (76, .invokevirtual 67), (79, .ifCond .eq 7), (82, .iconst 5), (83, .goto 4), (86, .iconst (-1)), (87, .ireturn)])
/-- LockOrchestra$Question.answer(LLockOrchestra$Hall;I)J -/
def am_m68 : am_M := (5, false, 3, 6, (some .long), ⟨"LockOrchestra$Question", "answer", "(LLockOrchestra$Hall;I)J"⟩, prog_7_method_4_code, [(0, .aload_n 0), (1, .getfield 18), (4, .ifCond .eq 11), (7, .aload_n 0), (8, .getfield 18), (11, .iconst 1), (12, .if_icmp .ne 9), (15, .ldc2_w 81), (18, .goto 4), (21, .lconst 0), (22, .lstore_n 3), (23, .iconst 0), (24, .istore 5), (26, .iload 5), (28, .aload_n 1), (29, .iconst 0), (30, .invokevirtual 83), (33, .if_icmp .ge 36), (36, .aload_n 0), (37, .lload_n 3), (38, .iload 5), (40, .aload_n 0), (41, .getfield 12), (44, .iconst 0), (45, .aload_n 0), (46, .getfield 12), (49, .invokevirtual 89), (52, .aload_n 1), (53, .iload_n 2), (54, .iload 5), (56, .invokevirtual 92), (59, .invokevirtual 96), (62, .lstore_n 3), (63, .iinc 5 1), (66, .goto (-40)), (69, .lload_n 3), (70, .lreturn)])
/-- LockOrchestra$Question.withLock(JII)J -/
def am_m69 : am_M := (5, false, 4, 5, (some .long), ⟨"LockOrchestra$Question", "withLock", "(JII)J"⟩, prog_7_method_5_code, [(0, .aload_n 0), (1, .getfield 18), (4, .tableswitch 108 0 5 #[40, 60, 108, 108, 72, 90]), (44, .lload_n 1), (45, .ldc2_w 81), (48, .lcmp), (49, .ifCond .ne 13), (52, .iload 4), (54, .ifCond .eq 8), (57, .iload_n 3), (58, .i2l), (59, .goto 4), (62, .lload_n 1), (63, .lreturn), (64, .iload 4), (66, .ifCond .eq 8), (69, .iload_n 3), (70, .i2l), (71, .goto 4), (74, .lload_n 1), (75, .lreturn), (76, .iload_n 3), (77, .ifCond .ne 9), (80, .iload 4), (82, .i2l), (83, .goto 10), (86, .lload_n 1), (87, .iload 4), (89, .i2l), (90, .invokestatic 100), (93, .lreturn), (94, .iload_n 3), (95, .ifCond .ne 9), (98, .iload 4), (100, .i2l), (101, .goto 10), (104, .lload_n 1), (105, .iload 4), (107, .i2l), (108, .invokestatic 106), (111, .lreturn), (112, .lload_n 1), (113, .iload 4), (115, .i2l), (116, .ladd), (117, .lreturn)])
/-- LockOrchestra$Search.<init>()V -/
def am_m70 : am_M := (6, true, 1, 1, none, ⟨"LockOrchestra$Search", "<init>", "()V"⟩, prog_8_method_1_code, [(0, .aload_n 0), (1, .invokespecial 3), (4, .aload_n 0), (5, .sipush 313), (8, .newarray .int), (10, .putfield 9), (13, .aload_n 0), (14, .sipush 1296), (17, .newarray .int), (19, .putfield 15), (22, .aload_n 0), (23, .sipush 1296), (26, .newarray .int), (28, .putfield 18), (31, .aload_n 0), (32, .sipush 1296), (35, .newarray .int), (37, .putfield 21), (40, .aload_n 0), (41, .iconst 0), (42, .putfield 24), (45, .aload_n 0), (46, .iconst 0), (47, .putfield 28), (50, .aload_n 0), (51, .iconst 0), (52, .putfield 31), (55, .return_)])
/-- LockOrchestra$Search.seekJustDoors(I)V -/
def am_m71 : am_M := (6, false, 2, 2, none, ⟨"LockOrchestra$Search", "seekJustDoors", "(I)V"⟩, prog_8_method_3_code, [(0, .aload_n 0), (1, .iconst 1), (2, .putfield 28), (5, .aload_n 0), (6, .iload_n 1), (7, .putfield 31), (10, .return_)])
/-- LockOrchestra$Search.find(LLockOrchestra$Hall;II)I -/
def am_m72 : am_M := (6, false, 4, 7, (some .int), ⟨"LockOrchestra$Search", "find", "(LLockOrchestra$Hall;II)I"⟩, prog_8_method_6_code, [(0, .aload_n 0), (1, .getfield 9), (4, .iconst 0), (5, .invokestatic 34), (8, .aload_n 0), (9, .iconst 0), (10, .putfield 24), (13, .aload_n 0), (14, .iload_n 2), (15, .iconst (-1)), (16, .iconst (-1)), (17, .invokevirtual 40), (20, .iconst 0), (21, .istore 4), (23, .iload 4), (25, .aload_n 0), (26, .getfield 24), (29, .if_icmp .ge 97), (32, .iload 4), (34, .sipush 1296), (37, .if_icmp .ge 89), (40, .aload_n 0), (41, .getfield 15), (44, .iload 4), (46, .invokestatic 44), (49, .istore 5), (51, .aload_n 0), (52, .aload_n 1), (53, .iload 5), (55, .invokevirtual 48), (58, .ifCond .eq 6), (61, .iload 4), (63, .ireturn), (64, .iconst 0), (65, .istore 6), (67, .iload 6), (69, .aload_n 1), (70, .iconst 1), (71, .invokevirtual 52), (74, .if_icmp .ge 46), (77, .iload_n 3), (78, .iload 6), (80, .ishr), (81, .iconst 1), (82, .iand), (83, .iconst 1), (84, .if_icmp .ne 30), (87, .aload_n 1), (88, .iload 5), (90, .iload 6), (92, .invokevirtual 57), (95, .ifCond .eq 19), (98, .aload_n 0), (99, .aload_n 1), (100, .iload 5), (102, .iload 6), (104, .invokevirtual 61), (107, .iload 4), (109, .iload 6), (111, .invokevirtual 40), (114, .iinc 6 1), (117, .goto (-50)), (120, .iinc 4 1), (123, .goto (-100)), (126, .iconst (-1)), (127, .ireturn)])
/-- LockOrchestra$Search.reach(III)V -/
def am_m73 : am_M := (6, false, 4, 5, none, ⟨"LockOrchestra$Search", "reach", "(III)V"⟩, prog_8_method_7_code, [(0, .iconst 1), (1, .iload_n 1), (2, .bipush 31), (4, .iand), (5, .ishl), (6, .istore 4), (8, .aload_n 0), (9, .getfield 9), (12, .iload_n 1), (13, .bipush 32), (15, .idiv), (16, .invokestatic 44), (19, .iload 4), (21, .iand), (22, .ifCond .ne 13), (25, .aload_n 0), (26, .getfield 24), (29, .sipush 1296), (32, .if_icmp .lt 4), (35, .return_), (36, .aload_n 0), (37, .getfield 9), (40, .iload_n 1), (41, .bipush 32), (43, .idiv), (44, .aload_n 0), (45, .getfield 9), (48, .iload_n 1), (49, .bipush 32), (51, .idiv), (52, .invokestatic 44), (55, .iload 4), (57, .ior), (58, .invokestatic 65), (61, .aload_n 0), (62, .getfield 15), (65, .aload_n 0), (66, .getfield 24), (69, .iload_n 1), (70, .invokestatic 65), (73, .aload_n 0), (74, .getfield 18), (77, .aload_n 0), (78, .getfield 24), (81, .iload_n 2), (82, .invokestatic 65), (85, .aload_n 0), (86, .getfield 21), (89, .aload_n 0), (90, .getfield 24), (93, .iload_n 3), (94, .invokestatic 65), (97, .aload_n 0), (98, .dup), (99, .getfield 24), (102, .iconst 1), (103, .iadd), (104, .putfield 24), (107, .return_)])
/-- LockOrchestra$Search.isSought(LLockOrchestra$Hall;I)Z -/
def am_m74 : am_M := (6, false, 3, 3, (some .boolean), ⟨"LockOrchestra$Search", "isSought", "(LLockOrchestra$Hall;I)Z"⟩, prog_8_method_8_code, [(0, .aload_n 0), (1, .getfield 28), (4, .tableswitch 83 1 3 #[28, 46, 69]), (32, .aload_n 1), (33, .iload_n 2), (34, .invokevirtual 69), (37, .aload_n 0), (38, .getfield 31), (41, .if_icmp .ne 7), (44, .iconst 1), (45, .goto 4), (48, .iconst 0), (49, .ireturn), (50, .aload_n 1), (51, .iload_n 2), (52, .invokevirtual 69), (55, .aload_n 0), (56, .getfield 31), (59, .iand), (60, .aload_n 0), (61, .getfield 31), (64, .if_icmp .ne 7), (67, .iconst 1), (68, .goto 4), (71, .iconst 0), (72, .ireturn), (73, .iload_n 2), (74, .aload_n 0), (75, .getfield 31), (78, .if_icmp .ne 7), (81, .iconst 1), (82, .goto 4), (85, .iconst 0), (86, .ireturn), (87, .iconst 0), (88, .ireturn)])
/-- LockOrchestra$Search.wayTo(II)I -/
def am_m75 : am_M := (6, false, 3, 6, (some .int), ⟨"LockOrchestra$Search", "wayTo", "(II)I"⟩, prog_8_method_10_code, [(0, .iload_n 1), (1, .iconst (-1)), (2, .if_icmp .ne 5), (5, .iconst (-1)), (6, .ireturn), (7, .aload_n 0), (8, .iload_n 1), (9, .invokevirtual 72), (12, .istore_n 3), (13, .iload_n 2), (14, .iconst (-1)), (15, .if_icmp .ne 5), (18, .iload_n 3), (19, .ireturn), (20, .iload_n 2), (21, .ifCond .lt 8), (24, .iload_n 2), (25, .iload_n 3), (26, .if_icmp .lt 5), (29, .iconst (-1)), (30, .ireturn), (31, .iload_n 1), (32, .istore 4), (34, .iload_n 3), (35, .iconst 1), (36, .isub), (37, .istore 5), (39, .iload 5), (41, .iload_n 2), (42, .if_icmp .le 20), (45, .aload_n 0), (46, .getfield 18), (49, .iload 4), (51, .invokestatic 44), (54, .istore 4), (56, .iinc 5 (-1)), (59, .goto (-20)), (62, .aload_n 0), (63, .getfield 21), (66, .iload 4), (68, .invokestatic 44), (71, .ireturn)])
/-- LockOrchestra$Search.lengthTo(I)I -/
def am_m76 : am_M := (6, false, 2, 4, (some .int), ⟨"LockOrchestra$Search", "lengthTo", "(I)I"⟩, prog_8_method_12_code, [(0, .iconst 0), (1, .istore_n 2), (2, .aload_n 0), (3, .getfield 18), (6, .iload_n 1), (7, .invokestatic 44), (10, .istore_n 3), (11, .iload_n 3), (12, .iconst (-1)), (13, .if_icmp .eq 25), (16, .iload_n 2), (17, .sipush 1296), (20, .if_icmp .ge 18), (23, .iinc 2 1), (26, .aload_n 0), (27, .getfield 18), (30, .iload_n 3), (31, .invokestatic 44), (34, .istore_n 3), (35, .goto (-24)), (38, .iload_n 2), (39, .ireturn)])
/-- LockOrchestra$Search.seekState(I)V -/
def am_m77 : am_M := (6, false, 2, 2, none, ⟨"LockOrchestra$Search", "seekState", "(I)V"⟩, prog_8_method_5_code, [(0, .aload_n 0), (1, .iconst 3), (2, .putfield 28), (5, .aload_n 0), (6, .iload_n 1), (7, .putfield 31), (10, .return_)])
/-- LockOrchestra$Search.seekNothing()V -/
def am_m78 : am_M := (6, false, 1, 1, none, ⟨"LockOrchestra$Search", "seekNothing", "()V"⟩, prog_8_method_2_code, [(0, .aload_n 0), (1, .iconst 0), (2, .putfield 28), (5, .return_)])
/-- LockOrchestra$Search.reached()I -/
def am_m79 : am_M := (6, false, 1, 1, (some .int), ⟨"LockOrchestra$Search", "reached", "()I"⟩, prog_8_method_9_code, [(0, .aload_n 0), (1, .getfield 24), (4, .ireturn)])
/-- LockOrchestra$Search.seekDoors(I)V -/
def am_m80 : am_M := (6, false, 2, 2, none, ⟨"LockOrchestra$Search", "seekDoors", "(I)V"⟩, prog_8_method_4_code, [(0, .aload_n 0), (1, .iconst 2), (2, .putfield 28), (5, .aload_n 0), (6, .iload_n 1), (7, .putfield 31), (10, .return_)])
/-- LockOrchestra$Search.notesTo(I)I -/
def am_m81 : am_M := (6, false, 2, 5, (some .int), ⟨"LockOrchestra$Search", "notesTo", "(I)I"⟩, prog_8_method_11_code, [(0, .iconst 0), (1, .istore_n 2), (2, .iload_n 1), (3, .istore_n 3), (4, .aload_n 0), (5, .iload_n 1), (6, .invokevirtual 72), (9, .istore 4), (11, .iload 4), (13, .ifCond .le 31), (16, .iload_n 2), (17, .iconst 1), (18, .aload_n 0), (19, .getfield 21), (22, .iload_n 3), (23, .invokestatic 44), (26, .ishl), (27, .ior), (28, .istore_n 2), (29, .aload_n 0), (30, .getfield 18), (33, .iload_n 3), (34, .invokestatic 44), (37, .istore_n 3), (38, .iinc 4 (-1)), (41, .goto (-30)), (44, .iload_n 2), (45, .ireturn)])
/-- LockOrchestra$Story.<init>()V -/
def am_m82 : am_M := (7, true, 1, 1, none, ⟨"LockOrchestra$Story", "<init>", "()V"⟩, prog_9_method_1_code, [(0, .aload_n 0), (1, .invokespecial 5), (4, .aload_n 0), (5, .bipush 43), (7, .newarray .int), (9, .putfield 11), (12, .aload_n 0), (13, .bipush 20), (15, .bipush 43), (17, .multianewarray 15 2), (21, .putfield 17), (24, .aload_n 0), (25, .iconst 0), (26, .putfield 20), (29, .aload_n 0), (30, .iconst 0), (31, .putfield 24), (34, .return_)])
/-- LockOrchestra$Story.start(II)V -/
def am_m83 : am_M := (7, false, 3, 3, none, ⟨"LockOrchestra$Story", "start", "(II)V"⟩, prog_9_method_2_code, [(0, .aload_n 0), (1, .getfield 11), (4, .iconst 0), (5, .iload_n 1), (6, .invokestatic 27), (9, .aload_n 0), (10, .getfield 11), (13, .iconst 1), (14, .iload_n 2), (15, .invokestatic 27), (18, .aload_n 0), (19, .getfield 11), (22, .iconst 2), (23, .iconst 0), (24, .invokestatic 27), (27, .aload_n 0), (28, .iconst 0), (29, .putfield 24), (32, .return_)])
/-- LockOrchestra$Story.played()I -/
def am_m84 : am_M := (7, false, 1, 1, (some .int), ⟨"LockOrchestra$Story", "played", "()I"⟩, prog_9_method_5_code, [(0, .aload_n 0), (1, .getfield 11), (4, .iconst 1), (5, .invokestatic 31), (8, .ireturn)])
/-- LockOrchestra$Story.state()I -/
def am_m85 : am_M := (7, false, 1, 1, (some .int), ⟨"LockOrchestra$Story", "state", "()I"⟩, prog_9_method_3_code, [(0, .aload_n 0), (1, .getfield 11), (4, .iconst 0), (5, .invokestatic 31), (8, .ireturn)])
/-- LockOrchestra$Story.keptCount()I -/
def am_m86 : am_M := (7, false, 1, 1, (some .int), ⟨"LockOrchestra$Story", "keptCount", "()I"⟩, prog_9_method_7_code, [(0, .aload_n 0), (1, .getfield 11), (4, .iconst 2), (5, .invokestatic 31), (8, .ireturn)])
/-- LockOrchestra$Story.acts()I -/
def am_m87 : am_M := (7, false, 1, 1, (some .int), ⟨"LockOrchestra$Story", "acts", "()I"⟩, prog_9_method_11_code, [(0, .aload_n 0), (1, .getfield 24), (4, .ireturn)])
/-- LockOrchestra$Story.keptPart(II)I -/
def am_m88 : am_M := (7, false, 3, 4, (some .int), ⟨"LockOrchestra$Story", "keptPart", "(II)I"⟩, prog_9_method_10_code, [(0, .iload_n 1), (1, .ifCond .lt 11), (4, .iload_n 1), (5, .aload_n 0), (6, .invokevirtual 49), (9, .if_icmp .lt 5), (12, .iconst (-1)), (13, .ireturn), (14, .aload_n 0), (15, .getfield 11), (18, .iconst 3), (19, .iload_n 1), (20, .iadd), (21, .invokestatic 31), (24, .istore_n 3), (25, .iload_n 2), (26, .tableswitch 42 0 2 #[26, 31, 38]), (52, .iload_n 3), (53, .bipush 16), (55, .idiv), (56, .ireturn), (57, .iload_n 3), (58, .iconst 2), (59, .idiv), (60, .bipush 8), (62, .irem), (63, .ireturn), (64, .iload_n 3), (65, .iconst 2), (66, .irem), (67, .ireturn), (68, .iconst (-1)), (69, .ireturn)])
/-- LockOrchestra$Story.beginAct()V -/
def am_m89 : am_M := (7, false, 1, 1, none, ⟨"LockOrchestra$Story", "beginAct", "()V"⟩, prog_9_method_12_code, [(0, .aload_n 0), (1, .getfield 11), (4, .aload_n 0), (5, .aload_n 0), (6, .getfield 24), (9, .invokevirtual 58), (12, .invokestatic 62), (15, .aload_n 0), (16, .getfield 24), (19, .bipush 20), (21, .if_icmp .ge 16), (24, .aload_n 0), (25, .dup), (26, .getfield 24), (29, .iconst 1), (30, .iadd), (31, .putfield 24), (34, .goto 16), (37, .aload_n 0), (38, .aload_n 0), (39, .getfield 20), (42, .iconst 1), (43, .iadd), (44, .bipush 20), (46, .irem), (47, .putfield 20), (50, .return_)])
/-- LockOrchestra$Story.pastRow(I)[I -/
def am_m90 : am_M := (7, false, 2, 3, (some (.array .int)), ⟨"LockOrchestra$Story", "pastRow", "(I)[I"⟩, prog_9_method_14_code, [(0, .aload_n 0), (1, .getfield 20), (4, .iload_n 1), (5, .iadd), (6, .bipush 20), (8, .irem), (9, .istore_n 2), (10, .iload_n 2), (11, .ifCond .lt 21), (14, .iload_n 2), (15, .aload_n 0), (16, .getfield 17), (19, .arraylength), (20, .if_icmp .ge 12), (23, .aload_n 0), (24, .getfield 17), (27, .iload_n 2), (28, .aaload), (29, .goto 7), (32, .aload_n 0), (33, .getfield 11), (36, .areturn)])
/-- LockOrchestra$Story.copyRow([I[I)V -/
def am_m91 : am_M := (7, false, 2, 3, none, ⟨"LockOrchestra$Story", "copyRow", "([I[I)V"⟩, prog_9_method_15_code, [(0, .iconst 0), (1, .istore_n 2), (2, .iload_n 2), (3, .bipush 43), (5, .if_icmp .ge 19), (8, .aload_n 1), (9, .iload_n 2), (10, .aload_n 0), (11, .iload_n 2), (12, .invokestatic 31), (15, .invokestatic 27), (18, .iinc 2 1), (21, .goto (-19)), (24, .return_)])
/-- LockOrchestra$Story.goTo(I)V -/
def am_m92 : am_M := (7, false, 2, 2, none, ⟨"LockOrchestra$Story", "goTo", "(I)V"⟩, prog_9_method_4_code, [(0, .aload_n 0), (1, .getfield 11), (4, .iconst 0), (5, .iload_n 1), (6, .invokestatic 27), (9, .return_)])
/-- LockOrchestra$Story.countPlayed()V -/
def am_m93 : am_M := (7, false, 1, 1, none, ⟨"LockOrchestra$Story", "countPlayed", "()V"⟩, prog_9_method_6_code, [(0, .aload_n 0), (1, .getfield 11), (4, .iconst 1), (5, .aload_n 0), (6, .invokevirtual 35), (9, .iconst 1), (10, .iadd), (11, .sipush 9999), (14, .invokestatic 39), (17, .invokestatic 27), (20, .return_)])
/-- LockOrchestra$Story.keepDoors(II)V -/
def am_m94 : am_M := (7, false, 3, 4, none, ⟨"LockOrchestra$Story", "keepDoors", "(II)V"⟩, prog_9_method_8_code, [(0, .iconst 0), (1, .istore_n 3), (2, .iload_n 3), (3, .bipush 6), (5, .if_icmp .ge 41), (8, .iload_n 1), (9, .iload_n 2), (10, .ixor), (11, .iload_n 3), (12, .ishr), (13, .iconst 1), (14, .iand), (15, .iconst 1), (16, .if_icmp .ne 24), (19, .aload_n 0), (20, .bipush 16), (22, .aload_n 0), (23, .invokevirtual 35), (26, .imul), (27, .iconst 2), (28, .iload_n 3), (29, .imul), (30, .iadd), (31, .iload_n 2), (32, .iload_n 3), (33, .ishr), (34, .iconst 1), (35, .iand), (36, .iadd), (37, .invokevirtual 45), (40, .iinc 3 1), (43, .goto (-41)), (46, .return_)])
/-- LockOrchestra$Story.keepOne(I)V -/
def am_m95 : am_M := (7, false, 2, 3, none, ⟨"LockOrchestra$Story", "keepOne", "(I)V"⟩, prog_9_method_9_code, [(0, .aload_n 0), (1, .invokevirtual 49), (4, .istore_n 2), (5, .iload_n 2), (6, .bipush 40), (8, .if_icmp .lt 21), (11, .aload_n 0), (12, .getfield 11), (15, .iconst 4), (16, .aload_n 0), (17, .getfield 11), (20, .iconst 3), (21, .bipush 39), (23, .invokestatic 52), (26, .bipush 39), (28, .istore_n 2), (29, .aload_n 0), (30, .getfield 11), (33, .iconst 3), (34, .iload_n 2), (35, .iadd), (36, .iload_n 1), (37, .invokestatic 27), (40, .aload_n 0), (41, .getfield 11), (44, .iconst 2), (45, .iload_n 2), (46, .iconst 1), (47, .iadd), (48, .invokestatic 27), (51, .return_)])
/-- LockOrchestra$Story.undoAct()Z -/
def am_m96 : am_M := (7, false, 1, 1, (some .boolean), ⟨"LockOrchestra$Story", "undoAct", "()Z"⟩, prog_9_method_13_code, [(0, .aload_n 0), (1, .getfield 24), (4, .ifCond .ne 5), (7, .iconst 0), (8, .ireturn), (9, .aload_n 0), (10, .dup), (11, .getfield 24), (14, .iconst 1), (15, .isub), (16, .putfield 24), (19, .aload_n 0), (20, .aload_n 0), (21, .getfield 24), (24, .invokevirtual 58), (27, .aload_n 0), (28, .getfield 11), (31, .invokestatic 62), (34, .iconst 1), (35, .ireturn)])
/-- LockOrchestra$Tape.<init>()V -/
def am_m97 : am_M := (8, true, 1, 1, none, ⟨"LockOrchestra$Tape", "<init>", "()V"⟩, prog_10_method_1_code, [(0, .aload_n 0), (1, .invokespecial 3), (4, .aload_n 0), (5, .sipush 1600), (8, .newarray .int), (10, .putfield 9), (13, .aload_n 0), (14, .iconst 0), (15, .putfield 15), (18, .return_)])
/-- LockOrchestra$Tape.length()I -/
def am_m98 : am_M := (8, false, 1, 1, (some .int), ⟨"LockOrchestra$Tape", "length", "()I"⟩, prog_10_method_2_code, [(0, .aload_n 0), (1, .getfield 15), (4, .ireturn)])
/-- LockOrchestra$Tape.addNumber(I)V -/
def am_m99 : am_M := (8, false, 2, 3, none, ⟨"LockOrchestra$Tape", "addNumber", "(I)V"⟩, prog_10_method_4_code, [(0, .bipush 24), (2, .istore_n 2), (3, .iload_n 2), (4, .ifCond .lt 20), (7, .aload_n 0), (8, .iload_n 1), (9, .iload_n 2), (10, .iushr), (11, .sipush 255), (14, .iand), (15, .invokevirtual 28), (18, .iinc 2 (-8)), (21, .goto (-18)), (24, .return_)])
/-- LockOrchestra$Tape.addByte(I)V -/
def am_m100 : am_M := (8, false, 2, 2, none, ⟨"LockOrchestra$Tape", "addByte", "(I)V"⟩, prog_10_method_5_code, [(0, .aload_n 0), (1, .getfield 15), (4, .sipush 1600), (7, .if_icmp .ge 25), (10, .aload_n 0), (11, .getfield 9), (14, .aload_n 0), (15, .getfield 15), (18, .iload_n 1), (19, .invokestatic 32), (22, .aload_n 0), (23, .dup), (24, .getfield 15), (27, .iconst 1), (28, .iadd), (29, .putfield 15), (32, .return_)])
/-- LockOrchestra$Tape.cut(I)V -/
def am_m101 : am_M := (8, false, 2, 2, none, ⟨"LockOrchestra$Tape", "cut", "(I)V"⟩, prog_10_method_3_code, [(0, .aload_n 0), (1, .iconst 0), (2, .iload_n 1), (3, .aload_n 0), (4, .getfield 15), (7, .invokestatic 19), (10, .invokestatic 25), (13, .putfield 15), (16, .return_)])
/-- LockOrchestra$Tape.byteAt(I)I -/
def am_m102 : am_M := (8, false, 2, 2, (some .int), ⟨"LockOrchestra$Tape", "byteAt", "(I)I"⟩, prog_10_method_6_code, [(0, .iload_n 1), (1, .ifCond .lt 29), (4, .iload_n 1), (5, .aload_n 0), (6, .getfield 15), (9, .if_icmp .ge 21), (12, .iload_n 1), (13, .aload_n 0), (14, .getfield 9), (17, .arraylength), (18, .if_icmp .ge 12), (21, .aload_n 0), (22, .getfield 9), (25, .iload_n 1), (26, .iaload), (27, .goto 4), (30, .iconst (-1)), (31, .ireturn)])
/-- LockOrchestra$TestReader.<init>(LLockOrchestra$Words;Z)V -/
def am_m103 : am_M := (9, true, 3, 3, none, ⟨"LockOrchestra$TestReader", "<init>", "(LLockOrchestra$Words;Z)V"⟩, prog_11_method_1_code, [(0, .aload_n 0), (1, .invokespecial 3), (4, .aload_n 0), (5, .aload_n 1), (6, .putfield 9), (9, .aload_n 0), (10, .iload_n 2), (11, .putfield 15), (14, .return_)])
/-- LockOrchestra$TestReader.readTest(LLockOrchestra$Code;I)V -/
def am_m104 : am_M := (9, false, 3, 4, none, ⟨"LockOrchestra$TestReader", "readTest", "(LLockOrchestra$Code;I)V"⟩, prog_11_method_2_code, [(0, .aload_n 0), (1, .aload_n 1), (2, .iload_n 2), (3, .invokevirtual 19), (6, .iconst 0), (7, .istore_n 3), (8, .iload_n 3), (9, .sipush 1600), (12, .if_icmp .ge 34), (15, .aload_n 0), (16, .getfield 9), (19, .ldc 23), (21, .invokevirtual 25), (24, .ifCond .eq 22), (27, .aload_n 0), (28, .aload_n 1), (29, .iload_n 2), (30, .invokevirtual 19), (33, .aload_n 1), (34, .sipush 10020), (37, .invokevirtual 33), (40, .iinc 3 1), (43, .goto (-35)), (46, .return_)])
/-- LockOrchestra$TestReader.readBoth(LLockOrchestra$Code;I)V -/
def am_m105 : am_M := (9, false, 3, 4, none, ⟨"LockOrchestra$TestReader", "readBoth", "(LLockOrchestra$Code;I)V"⟩, prog_11_method_3_code, [(0, .aload_n 0), (1, .aload_n 1), (2, .iload_n 2), (3, .invokevirtual 37), (6, .iconst 0), (7, .istore_n 3), (8, .iload_n 3), (9, .sipush 1600), (12, .if_icmp .ge 34), (15, .aload_n 0), (16, .getfield 9), (19, .ldc 40), (21, .invokevirtual 25), (24, .ifCond .eq 22), (27, .aload_n 0), (28, .aload_n 1), (29, .iload_n 2), (30, .invokevirtual 37), (33, .aload_n 1), (34, .sipush 10021), (37, .invokevirtual 33), (40, .iinc 3 1), (43, .goto (-35)), (46, .return_)])
/-- LockOrchestra$TestReader.readFact(LLockOrchestra$Code;I)V -/
def am_m106 : am_M := (9, false, 3, 4, none, ⟨"LockOrchestra$TestReader", "readFact", "(LLockOrchestra$Code;I)V"⟩, prog_11_method_4_code, [(0, .aload_n 0), (1, .getfield 9), (4, .ldc 42), (6, .invokevirtual 44), (9, .ifCond .eq 29), (12, .aload_n 0), (13, .iload_n 2), (14, .invokevirtual 47), (17, .ifCond .eq 105), (20, .aload_n 0), (21, .aload_n 1), (22, .iload_n 2), (23, .iconst 1), (24, .iadd), (25, .invokevirtual 37), (28, .aload_n 1), (29, .sipush 10010), (32, .invokevirtual 33), (35, .goto 87), (38, .aload_n 0), (39, .getfield 9), (42, .bipush 91), (44, .invokevirtual 51), (47, .ifCond .eq 31), (50, .aload_n 0), (51, .iload_n 2), (52, .invokevirtual 47), (55, .ifCond .eq 67), (58, .aload_n 0), (59, .aload_n 1), (60, .iload_n 2), (61, .iconst 1), (62, .iadd), (63, .invokevirtual 55), (66, .aload_n 0), (67, .getfield 9), (70, .bipush 93), (72, .invokevirtual 58), (75, .goto 47), (78, .aload_n 0), (79, .getfield 9), (82, .ldc 62), (84, .invokevirtual 25), (87, .ifCond .eq 13), (90, .aload_n 1), (91, .sipush 10000), (94, .invokevirtual 33), (97, .goto 25), (100, .aload_n 0), (101, .aload_n 1), (102, .iload_n 2), (103, .invokevirtual 64), (106, .aload_n 0), (107, .invokevirtual 67), (110, .istore_n 3), (111, .aload_n 0), (112, .aload_n 1), (113, .iload_n 2), (114, .invokevirtual 64), (117, .aload_n 1), (118, .iload_n 3), (119, .invokevirtual 33), (122, .return_)])
/-- LockOrchestra$TestReader.opensOneMore(I)Z -/
def am_m107 : am_M := (9, false, 2, 2, (some .boolean), ⟨"LockOrchestra$TestReader", "opensOneMore", "(I)Z"⟩, prog_11_method_10_code, [(0, .iload_n 1), (1, .bipush 6), (3, .if_icmp .lt 13), (6, .aload_n 0), (7, .getfield 9), (10, .iconst 4), (11, .invokevirtual 107), (14, .iconst 0), (15, .ireturn), (16, .aload_n 0), (17, .getfield 9), (20, .invokevirtual 110), (23, .iconst 1), (24, .ireturn)])
/-- LockOrchestra$TestReader.readSum(LLockOrchestra$Code;I)V -/
def am_m108 : am_M := (9, false, 3, 5, none, ⟨"LockOrchestra$TestReader", "readSum", "(LLockOrchestra$Code;I)V"⟩, prog_11_method_5_code, [(0, .aload_n 0), (1, .aload_n 1), (2, .iload_n 2), (3, .invokevirtual 71), (6, .iconst 0), (7, .istore_n 3), (8, .iload_n 3), (9, .sipush 1600), (12, .if_icmp .ge 44), (15, .aload_n 0), (16, .bipush 43), (18, .sipush 10030), (21, .bipush 45), (23, .sipush 10031), (26, .invokevirtual 74), (29, .istore 4), (31, .iload 4), (33, .iconst (-1)), (34, .if_icmp .ne 4), (37, .return_), (38, .aload_n 0), (39, .aload_n 1), (40, .iload_n 2), (41, .invokevirtual 71), (44, .aload_n 1), (45, .iload 4), (47, .invokevirtual 33), (50, .iinc 3 1), (53, .goto (-45)), (56, .return_)])
/-- LockOrchestra$TestReader.readProduct(LLockOrchestra$Code;I)V -/
def am_m109 : am_M := (9, false, 3, 5, none, ⟨"LockOrchestra$TestReader", "readProduct", "(LLockOrchestra$Code;I)V"⟩, prog_11_method_6_code, [(0, .aload_n 0), (1, .aload_n 1), (2, .iload_n 2), (3, .invokevirtual 78), (6, .iconst 0), (7, .istore_n 3), (8, .iload_n 3), (9, .sipush 1600), (12, .if_icmp .ge 44), (15, .aload_n 0), (16, .bipush 42), (18, .sipush 10032), (21, .bipush 47), (23, .sipush 10033), (26, .invokevirtual 74), (29, .istore 4), (31, .iload 4), (33, .iconst (-1)), (34, .if_icmp .ne 4), (37, .return_), (38, .aload_n 0), (39, .aload_n 1), (40, .iload_n 2), (41, .invokevirtual 78), (44, .aload_n 1), (45, .iload 4), (47, .invokevirtual 33), (50, .iinc 3 1), (53, .goto (-45)), (56, .return_)])
/-- LockOrchestra$TestReader.readPart(LLockOrchestra$Code;I)V -/
def am_m110 : am_M := (9, false, 3, 4, none, ⟨"LockOrchestra$TestReader", "readPart", "(LLockOrchestra$Code;I)V"⟩, prog_11_method_7_code, [(0, .aload_n 0), (1, .getfield 9), (4, .invokevirtual 81), (7, .ifCond .eq 21), (10, .aload_n 1), (11, .aload_n 0), (12, .getfield 9), (15, .iconst 0), (16, .sipush 9999), (19, .invokevirtual 85), (22, .invokevirtual 33), (25, .goto 176), (28, .aload_n 0), (29, .getfield 9), (32, .bipush 40), (34, .invokevirtual 51), (37, .ifCond .eq 31), (40, .aload_n 0), (41, .iload_n 2), (42, .invokevirtual 47), (45, .ifCond .eq 156), (48, .aload_n 0), (49, .aload_n 1), (50, .iload_n 2), (51, .iconst 1), (52, .iadd), (53, .invokevirtual 64), (56, .aload_n 0), (57, .getfield 9), (60, .bipush 41), (62, .invokevirtual 58), (65, .goto 136), (68, .aload_n 0), (69, .getfield 9), (72, .ldc 89), (74, .invokevirtual 25), (77, .ifCond .eq 15), (80, .aload_n 0), (81, .aload_n 1), (82, .iload_n 2), (83, .sipush 10034), (86, .invokevirtual 91), (89, .goto 112), (92, .aload_n 0), (93, .getfield 9), (96, .ldc 95), (98, .invokevirtual 25), (101, .ifCond .eq 15), (104, .aload_n 0), (105, .aload_n 1), (106, .iload_n 2), (107, .sipush 10035), (110, .invokevirtual 91), (113, .goto 88), (116, .aload_n 0), (117, .getfield 9), (120, .ldc 97), (122, .invokevirtual 44), (125, .ifCond .eq 15), (128, .aload_n 0), (129, .aload_n 1), (130, .iload_n 2), (131, .sipush 10011), (134, .invokevirtual 99), (137, .goto 64), (140, .aload_n 0), (141, .getfield 15), (144, .ifCond .eq 27), (147, .aload_n 0), (148, .getfield 9), (151, .ldc 102), (153, .invokevirtual 44), (156, .ifCond .eq 15), (159, .aload_n 0), (160, .aload_n 1), (161, .iload_n 2), (162, .sipush 10012), (165, .invokevirtual 99), (168, .goto 33), (171, .aload_n 0), (172, .invokevirtual 104), (175, .istore_n 3), (176, .iload_n 3), (177, .iconst (-1)), (178, .if_icmp .ne 11), (181, .aload_n 0), (182, .getfield 9), (185, .iconst 1), (186, .invokevirtual 107), (189, .aload_n 0), (190, .getfield 9), (193, .invokevirtual 110), (196, .aload_n 1), (197, .iload_n 3), (198, .invokevirtual 33), (201, .return_)])
/-- LockOrchestra$TestReader.readPair(LLockOrchestra$Code;II)V -/
def am_m111 : am_M := (9, false, 4, 4, none, ⟨"LockOrchestra$TestReader", "readPair", "(LLockOrchestra$Code;II)V"⟩, prog_11_method_8_code, [(0, .aload_n 0), (1, .getfield 9), (4, .bipush 40), (6, .invokevirtual 51), (9, .ifCond .ne 14), (12, .aload_n 0), (13, .getfield 9), (16, .iconst 1), (17, .invokevirtual 107), (20, .goto 50), (23, .aload_n 0), (24, .iload_n 2), (25, .invokevirtual 47), (28, .ifCond .eq 42), (31, .aload_n 0), (32, .aload_n 1), (33, .iload_n 2), (34, .iconst 1), (35, .iadd), (36, .invokevirtual 64), (39, .aload_n 0), (40, .getfield 9), (43, .bipush 44), (45, .invokevirtual 58), (48, .aload_n 0), (49, .aload_n 1), (50, .iload_n 2), (51, .iconst 1), (52, .iadd), (53, .invokevirtual 64), (56, .aload_n 0), (57, .getfield 9), (60, .bipush 41), (62, .invokevirtual 58), (65, .aload_n 1), (66, .iload_n 3), (67, .invokevirtual 33), (70, .return_)])
/-- LockOrchestra$TestReader.readPartOf(LLockOrchestra$Code;II)V -/
def am_m112 : am_M := (9, false, 4, 4, none, ⟨"LockOrchestra$TestReader", "readPartOf", "(LLockOrchestra$Code;II)V"⟩, prog_11_method_9_code, [(0, .aload_n 0), (1, .iload_n 2), (2, .invokevirtual 47), (5, .ifCond .eq 16), (8, .aload_n 0), (9, .aload_n 1), (10, .iload_n 2), (11, .iconst 1), (12, .iadd), (13, .invokevirtual 78), (16, .aload_n 1), (17, .iload_n 3), (18, .invokevirtual 33), (21, .return_)])
/-- LockOrchestra$TestReader.leafHere()I -/
def am_m113 : am_M := (9, false, 1, 1, (some .int), ⟨"LockOrchestra$TestReader", "leafHere", "()I"⟩, prog_11_method_13_code, [(0, .aload_n 0), (1, .getfield 9), (4, .ldc 113), (6, .invokevirtual 44), (9, .ifCond .eq 7), (12, .sipush 10001), (15, .ireturn), (16, .aload_n 0), (17, .getfield 15), (20, .ifCond .ne 5), (23, .iconst (-1)), (24, .ireturn), (25, .aload_n 0), (26, .getfield 9), (29, .ldc 115), (31, .invokevirtual 44), (34, .ifCond .eq 7), (37, .sipush 10002), (40, .ireturn), (41, .aload_n 0), (42, .getfield 9), (45, .ldc 117), (47, .invokevirtual 44), (50, .ifCond .eq 7), (53, .sipush 10003), (56, .ireturn), (57, .aload_n 0), (58, .getfield 9), (61, .ldc 119), (63, .invokevirtual 44), (66, .ifCond .eq 7), (69, .sipush 10004), (72, .ireturn), (73, .aload_n 0), (74, .getfield 9), (77, .ldc 121), (79, .invokevirtual 44), (82, .ifCond .eq 9), (85, .sipush 10005), (88, .goto 4), (91, .iconst (-1)), (92, .ireturn)])
/-- LockOrchestra$TestReader.takeEither(CICI)I -/
def am_m114 : am_M := (9, false, 5, 6, (some .int), ⟨"LockOrchestra$TestReader", "takeEither", "(CICI)I"⟩, prog_11_method_12_code, [(0, .aload_n 0), (1, .getfield 9), (4, .iload_n 1), (5, .invokevirtual 51), (8, .ifCond .eq 7), (11, .iload_n 2), (12, .goto 4), (15, .iconst (-1)), (16, .istore 5), (18, .aload_n 0), (19, .getfield 9), (22, .iload_n 3), (23, .invokevirtual 51), (26, .ifCond .eq 8), (29, .iload 4), (31, .goto 5), (34, .iload 5), (36, .istore 5), (38, .iload 5), (40, .iconst (-1)), (41, .if_icmp .eq 10), (44, .aload_n 0), (45, .getfield 9), (48, .invokevirtual 110), (51, .iload 5), (53, .ireturn)])
/-- LockOrchestra$TestReader.takeComparison()I -/
def am_m115 : am_M := (9, false, 1, 2, (some .int), ⟨"LockOrchestra$TestReader", "takeComparison", "()I"⟩, prog_11_method_11_code, [(0, .sipush 10024), (3, .istore_n 1), (4, .aload_n 0), (5, .getfield 9), (8, .bipush 60), (10, .invokevirtual 51), (13, .ifCond .eq 10), (16, .sipush 10022), (19, .istore_n 1), (20, .goto 42), (23, .aload_n 0), (24, .getfield 9), (27, .bipush 62), (29, .invokevirtual 51), (32, .ifCond .eq 10), (35, .sipush 10023), (38, .istore_n 1), (39, .goto 23), (42, .aload_n 0), (43, .getfield 9), (46, .bipush 61), (48, .invokevirtual 51), (51, .ifCond .ne 11), (54, .aload_n 0), (55, .getfield 9), (58, .iconst 1), (59, .invokevirtual 107), (62, .aload_n 0), (63, .getfield 9), (66, .invokevirtual 110), (69, .iload_n 1), (70, .ireturn)])
/-- LockOrchestra$Words.<init>(LLockOrchestra$Tape;)V -/
def am_m116 : am_M := (10, true, 2, 2, none, ⟨"LockOrchestra$Words", "<init>", "(LLockOrchestra$Tape;)V"⟩, prog_12_method_1_code, [(0, .aload_n 0), (1, .invokespecial 3), (4, .aload_n 0), (5, .iconst 0), (6, .putfield 11), (9, .aload_n 0), (10, .iconst 0), (11, .putfield 15), (14, .aload_n 0), (15, .iconst 0), (16, .putfield 18), (19, .aload_n 0), (20, .iconst 0), (21, .putfield 21), (24, .aload_n 0), (25, .iconst (-1)), (26, .putfield 24), (29, .aload_n 0), (30, .aload_n 1), (31, .putfield 27), (34, .return_)])
/-- LockOrchestra$Words.begin()V -/
def am_m117 : am_M := (10, false, 1, 1, none, ⟨"LockOrchestra$Words", "begin", "()V"⟩, prog_12_method_2_code, [(0, .aload_n 0), (1, .iconst 0), (2, .putfield 21), (5, .aload_n 0), (6, .iconst (-1)), (7, .putfield 24), (10, .aload_n 0), (11, .iconst 3), (12, .putfield 11), (15, .aload_n 0), (16, .iconst 0), (17, .putfield 18), (20, .aload_n 0), (21, .invokevirtual 31), (24, .return_)])
/-- LockOrchestra$Words.next()V -/
def am_m118 : am_M := (10, false, 1, 3, none, ⟨"LockOrchestra$Words", "next", "()V"⟩, prog_12_method_7_code, [(0, .aload_n 0), (1, .getfield 21), (4, .ifCond .eq 4), (7, .return_), (8, .aload_n 0), (9, .getfield 11), (12, .iconst 1), (13, .if_icmp .eq 11), (16, .aload_n 0), (17, .getfield 11), (20, .iconst 2), (21, .if_icmp .ne 7), (24, .iconst 1), (25, .goto 4), (28, .iconst 0), (29, .istore_n 1), (30, .aload_n 0), (31, .getfield 18), (34, .istore_n 2), (35, .aload_n 0), (36, .iload_n 2), (37, .putfield 15), (40, .aload_n 0), (41, .getfield 15), (44, .aload_n 0), (45, .getfield 27), (48, .invokevirtual 38), (51, .if_icmp .ge 33), (54, .aload_n 0), (55, .getfield 27), (58, .aload_n 0), (59, .getfield 15), (62, .invokevirtual 44), (65, .invokestatic 48), (68, .ifCond .eq 16), (71, .aload_n 0), (72, .dup), (73, .getfield 15), (76, .iconst 1), (77, .iadd), (78, .putfield 15), (81, .goto (-41)), (84, .aload_n 0), (85, .aload_n 0), (86, .getfield 27), (89, .aload_n 0), (90, .getfield 15), (93, .invokevirtual 44), (96, .invokestatic 52), (99, .putfield 11), (102, .aload_n 0), (103, .aload_n 0), (104, .getfield 11), (107, .ifCond .ne 10), (110, .aload_n 0), (111, .getfield 15), (114, .goto 9), (117, .aload_n 0), (118, .getfield 15), (121, .iconst 1), (122, .iadd), (123, .putfield 18), (126, .aload_n 0), (127, .getfield 11), (130, .iconst 1), (131, .if_icmp .eq 11), (134, .aload_n 0), (135, .getfield 11), (138, .iconst 2), (139, .if_icmp .ne 51), (142, .aload_n 0), (143, .getfield 18), (146, .aload_n 0), (147, .getfield 27), (150, .invokevirtual 38), (153, .if_icmp .ge 37), (156, .aload_n 0), (157, .getfield 27), (160, .aload_n 0), (161, .getfield 18), (164, .invokevirtual 44), (167, .invokestatic 52), (170, .aload_n 0), (171, .getfield 11), (174, .if_icmp .ne 16), (177, .aload_n 0), (178, .dup), (179, .getfield 18), (182, .iconst 1), (183, .iadd), (184, .putfield 18), (187, .goto (-61)), (190, .iload_n 1), (191, .ifCond .eq 32), (194, .aload_n 0), (195, .getfield 15), (198, .iload_n 2), (199, .if_icmp .ne 24), (202, .aload_n 0), (203, .getfield 11), (206, .iconst 1), (207, .if_icmp .eq 11), (210, .aload_n 0), (211, .getfield 11), (214, .iconst 2), (215, .if_icmp .ne 8), (218, .aload_n 0), (219, .iconst 4), (220, .putfield 11), (223, .return_)])
/-- LockOrchestra$Words.isBlank(I)Z -/
def am_m119 : am_M := (10, false, 1, 1, (some .boolean), ⟨"LockOrchestra$Words", "isBlank", "(I)Z"⟩, prog_12_method_8_code, [(0, .iload_n 0), (1, .bipush 10), (3, .if_icmp .eq 9), (6, .iload_n 0), (7, .bipush 32), (9, .if_icmp .ne 7), (12, .iconst 1), (13, .goto 4), (16, .iconst 0), (17, .ireturn)])
/-- LockOrchestra$Words.kindOf(I)I -/
def am_m120 : am_M := (10, false, 1, 1, (some .int), ⟨"LockOrchestra$Words", "kindOf", "(I)I"⟩, prog_12_method_9_code, [(0, .iload_n 0), (1, .iconst (-1)), (2, .if_icmp .ne 5), (5, .iconst 0), (6, .ireturn), (7, .iload_n 0), (8, .bipush 97), (10, .if_icmp .lt 11), (13, .iload_n 0), (14, .bipush 122), (16, .if_icmp .gt 5), (19, .iconst 1), (20, .ireturn), (21, .iload_n 0), (22, .bipush 48), (24, .if_icmp .lt 13), (27, .iload_n 0), (28, .bipush 57), (30, .if_icmp .gt 7), (33, .iconst 2), (34, .goto 4), (37, .iconst 3), (38, .ireturn)])
/-- LockOrchestra$Words.isEnd()Z -/
def am_m121 : am_M := (10, false, 1, 1, (some .boolean), ⟨"LockOrchestra$Words", "isEnd", "()Z"⟩, prog_12_method_10_code, [(0, .aload_n 0), (1, .getfield 11), (4, .ifCond .ne 7), (7, .iconst 1), (8, .goto 4), (11, .iconst 0), (12, .ireturn)])
/-- LockOrchestra$Words.isWord(Ljava/lang/String;)Z -/
def am_m122 : am_M := (10, false, 2, 4, (some .boolean), ⟨"LockOrchestra$Words", "isWord", "(Ljava/lang/String;)Z"⟩, prog_12_method_13_code, [(0, .aload_n 0), (1, .getfield 11), (4, .iconst 1), (5, .if_icmp .ne 23), (8, .aload_n 0), (9, .getfield 18), (12, .aload_n 0), (13, .getfield 15), (16, .isub), (17, .aload_n 1), (18, .invokevirtual 55), (21, .if_icmp .ne 7), (24, .iconst 1), (25, .goto 4), (28, .iconst 0), (29, .istore_n 2), (30, .iconst 0), (31, .istore_n 3), (32, .iload_n 3), (33, .aload_n 1), (34, .invokevirtual 55), (37, .if_icmp .ge 40), (40, .iload_n 2), (41, .ifCond .eq 36), (44, .aload_n 1), (45, .iload_n 3), (46, .invokevirtual 58), (49, .aload_n 0), (50, .getfield 27), (53, .aload_n 0), (54, .getfield 15), (57, .iload_n 3), (58, .iadd), (59, .invokevirtual 44), (62, .if_icmp .ne 7), (65, .iconst 1), (66, .goto 4), (69, .iconst 0), (70, .istore_n 2), (71, .iinc 3 1), (74, .goto (-42)), (77, .iload_n 2), (78, .ireturn)])
/-- LockOrchestra$Words.failHere(I)V -/
def am_m123 : am_M := (10, false, 2, 2, none, ⟨"LockOrchestra$Words", "failHere", "(I)V"⟩, prog_12_method_6_code, [(0, .aload_n 0), (1, .iload_n 1), (2, .aload_n 0), (3, .getfield 15), (6, .invokevirtual 34), (9, .return_)])
/-- LockOrchestra$Words.fail(II)V -/
def am_m124 : am_M := (10, false, 3, 3, none, ⟨"LockOrchestra$Words", "fail", "(II)V"⟩, prog_12_method_5_code, [(0, .aload_n 0), (1, .getfield 21), (4, .ifCond .ne 18), (7, .aload_n 0), (8, .iload_n 1), (9, .putfield 21), (12, .aload_n 0), (13, .iload_n 2), (14, .putfield 24), (17, .aload_n 0), (18, .iconst 0), (19, .putfield 11), (22, .return_)])
/-- LockOrchestra$Words.nameHere()I -/
def am_m125 : am_M := (10, false, 1, 3, (some .int), ⟨"LockOrchestra$Words", "nameHere", "()I"⟩, prog_12_method_20_code, [(0, .aload_n 0), (1, .getfield 11), (4, .iconst 1), (5, .if_icmp .ne 10), (8, .aload_n 0), (9, .invokevirtual 76), (12, .ifCond .eq 10), (15, .aload_n 0), (16, .iconst 1), (17, .invokevirtual 68), (20, .iconst 0), (21, .ireturn), (22, .aload_n 0), (23, .getfield 18), (26, .aload_n 0), (27, .getfield 15), (30, .isub), (31, .bipush 6), (33, .if_icmp .le 17), (36, .aload_n 0), (37, .iconst 1), (38, .aload_n 0), (39, .getfield 15), (42, .bipush 6), (44, .iadd), (45, .invokevirtual 34), (48, .iconst 0), (49, .ireturn), (50, .iconst 0), (51, .istore_n 1), (52, .aload_n 0), (53, .getfield 15), (56, .istore_n 2), (57, .iload_n 2), (58, .aload_n 0), (59, .getfield 18), (62, .if_icmp .ge 34), (65, .iload_n 1), (66, .aload_n 0), (67, .getfield 27), (70, .iload_n 2), (71, .invokevirtual 44), (74, .bipush 97), (76, .isub), (77, .iconst 1), (78, .iadd), (79, .iconst 5), (80, .iload_n 2), (81, .aload_n 0), (82, .getfield 15), (85, .isub), (86, .imul), (87, .ishl), (88, .ior), (89, .istore_n 1), (90, .iinc 2 1), (93, .goto (-36)), (96, .iload_n 1), (97, .ireturn)])
/-- LockOrchestra$Words.isOwnWord()Z -/
def am_m126 : am_M := (10, false, 1, 5, (some .boolean), ⟨"LockOrchestra$Words", "isOwnWord", "()Z"⟩, prog_12_method_15_code, [(0, .aload_n 0), (1, .getfield 18), (4, .aload_n 0), (5, .getfield 15), (8, .isub), (9, .istore_n 1), (10, .iconst 0), (11, .istore_n 2), (12, .iload_n 2), (13, .iload_n 1), (14, .iadd), (15, .iconst 1), (16, .iadd), (17, .ldc 62), (19, .invokevirtual 55), (22, .if_icmp .ge 100), (25, .ldc 62), (27, .iload_n 2), (28, .invokevirtual 58), (31, .bipush 32), (33, .if_icmp .ne 22), (36, .ldc 62), (38, .iload_n 2), (39, .iload_n 1), (40, .iadd), (41, .iconst 1), (42, .iadd), (43, .invokevirtual 58), (46, .bipush 32), (48, .if_icmp .ne 7), (51, .iconst 1), (52, .goto 4), (55, .iconst 0), (56, .istore_n 3), (57, .iconst 0), (58, .istore 4), (60, .iload 4), (62, .iload_n 1), (63, .if_icmp .ge 47), (66, .iload_n 3), (67, .ifCond .eq 43), (70, .ldc 62), (72, .iload_n 2), (73, .iconst 1), (74, .iadd), (75, .iload 4), (77, .iadd), (78, .invokevirtual 58), (81, .aload_n 0), (82, .getfield 27), (85, .aload_n 0), (86, .getfield 15), (89, .iload 4), (91, .iadd), (92, .invokevirtual 44), (95, .if_icmp .ne 7), (98, .iconst 1), (99, .goto 4), (102, .iconst 0), (103, .istore_n 3), (104, .iinc 4 1), (107, .goto (-47)), (110, .iload_n 3), (111, .ifCond .eq 5), (114, .iconst 1), (115, .ireturn), (116, .iinc 2 1), (119, .goto (-107)), (122, .iconst 0), (123, .ireturn)])
/-- LockOrchestra$Words.faultKind()I -/
def am_m127 : am_M := (10, false, 1, 1, (some .int), ⟨"LockOrchestra$Words", "faultKind", "()I"⟩, prog_12_method_3_code, [(0, .aload_n 0), (1, .getfield 21), (4, .ireturn)])
/-- LockOrchestra$Words.needWord(Ljava/lang/String;)V -/
def am_m128 : am_M := (10, false, 2, 2, none, ⟨"LockOrchestra$Words", "needWord", "(Ljava/lang/String;)V"⟩, prog_12_method_17_code, [(0, .aload_n 0), (1, .aload_n 1), (2, .invokevirtual 64), (5, .ifCond .eq 10), (8, .aload_n 0), (9, .invokevirtual 31), (12, .goto 8), (15, .aload_n 0), (16, .iconst 1), (17, .invokevirtual 68), (20, .return_)])
/-- LockOrchestra$Words.needNumber(II)I -/
def am_m129 : am_M := (10, false, 3, 5, (some .int), ⟨"LockOrchestra$Words", "needNumber", "(II)I"⟩, prog_12_method_19_code, [(0, .aload_n 0), (1, .getfield 11), (4, .iconst 2), (5, .if_icmp .eq 10), (8, .aload_n 0), (9, .iconst 1), (10, .invokevirtual 68), (13, .iload_n 1), (14, .ireturn), (15, .aload_n 0), (16, .getfield 18), (19, .aload_n 0), (20, .getfield 15), (23, .isub), (24, .iconst 4), (25, .if_icmp .le 16), (28, .aload_n 0), (29, .iconst 1), (30, .aload_n 0), (31, .getfield 15), (34, .iconst 4), (35, .iadd), (36, .invokevirtual 34), (39, .iload_n 1), (40, .ireturn), (41, .iconst 0), (42, .istore_n 3), (43, .aload_n 0), (44, .getfield 15), (47, .istore 4), (49, .iload 4), (51, .aload_n 0), (52, .getfield 18), (55, .if_icmp .ge 27), (58, .bipush 10), (60, .iload_n 3), (61, .imul), (62, .aload_n 0), (63, .getfield 27), (66, .iload 4), (68, .invokevirtual 44), (71, .iadd), (72, .bipush 48), (74, .isub), (75, .istore_n 3), (76, .iinc 4 1), (79, .goto (-30)), (82, .iload_n 3), (83, .iload_n 1), (84, .if_icmp .lt 8), (87, .iload_n 3), (88, .iload_n 2), (89, .if_icmp .le 10), (92, .aload_n 0), (93, .iconst 2), (94, .invokevirtual 68), (97, .iload_n 1), (98, .ireturn), (99, .aload_n 0), (100, .invokevirtual 31), (103, .iload_n 3), (104, .ireturn)])
/-- LockOrchestra$Words.takeWord(Ljava/lang/String;)Z -/
def am_m130 : am_M := (10, false, 2, 3, (some .boolean), ⟨"LockOrchestra$Words", "takeWord", "(Ljava/lang/String;)Z"⟩, prog_12_method_16_code, [(0, .aload_n 0), (1, .aload_n 1), (2, .invokevirtual 64), (5, .istore_n 2), (6, .iload_n 2), (7, .ifCond .eq 7), (10, .aload_n 0), (11, .invokevirtual 31), (14, .iload_n 2), (15, .ireturn)])
/-- LockOrchestra$Words.isAnyWord()Z -/
def am_m131 : am_M := (10, false, 1, 1, (some .boolean), ⟨"LockOrchestra$Words", "isAnyWord", "()Z"⟩, prog_12_method_11_code, [(0, .aload_n 0), (1, .getfield 11), (4, .iconst 1), (5, .if_icmp .ne 7), (8, .iconst 1), (9, .goto 4), (12, .iconst 0), (13, .ireturn)])
/-- LockOrchestra$Words.isSign(C)Z -/
def am_m132 : am_M := (10, false, 2, 2, (some .boolean), ⟨"LockOrchestra$Words", "isSign", "(C)Z"⟩, prog_12_method_14_code, [(0, .aload_n 0), (1, .getfield 11), (4, .iconst 3), (5, .if_icmp .ne 22), (8, .aload_n 0), (9, .getfield 27), (12, .aload_n 0), (13, .getfield 15), (16, .invokevirtual 44), (19, .iload_n 1), (20, .if_icmp .ne 7), (23, .iconst 1), (24, .goto 4), (27, .iconst 0), (28, .ireturn)])
/-- LockOrchestra$Words.needSign(C)V -/
def am_m133 : am_M := (10, false, 2, 2, none, ⟨"LockOrchestra$Words", "needSign", "(C)V"⟩, prog_12_method_18_code, [(0, .aload_n 0), (1, .iload_n 1), (2, .invokevirtual 72), (5, .ifCond .eq 10), (8, .aload_n 0), (9, .invokevirtual 31), (12, .goto 8), (15, .aload_n 0), (16, .iconst 1), (17, .invokevirtual 68), (20, .return_)])
/-- LockOrchestra$Words.isAnyNumber()Z -/
def am_m134 : am_M := (10, false, 1, 1, (some .boolean), ⟨"LockOrchestra$Words", "isAnyNumber", "()Z"⟩, prog_12_method_12_code, [(0, .aload_n 0), (1, .getfield 11), (4, .iconst 2), (5, .if_icmp .ne 7), (8, .iconst 1), (9, .goto 4), (12, .iconst 0), (13, .ireturn)])
/-- LockOrchestra$Words.faultPlace()I -/
def am_m135 : am_M := (10, false, 1, 1, (some .int), ⟨"LockOrchestra$Words", "faultPlace", "()I"⟩, prog_12_method_4_code, [(0, .aload_n 0), (1, .getfield 24), (4, .ireturn)])
/-- LockOrchestra.<init>()V -/
def am_m136 : am_M := (11, true, 1, 1, none, ⟨"LockOrchestra", "<init>", "()V"⟩, prog_1_method_1_code, [(0, .aload_n 0), (1, .invokespecial 1), (4, .aload_n 0), (5, .new 7), (8, .dup), (9, .invokespecial 9), (12, .putfield 10), (15, .aload_n 0), (16, .new 16), (19, .dup), (20, .aload_n 0), (21, .getfield 10), (24, .invokespecial 18), (27, .putfield 21), (30, .aload_n 0), (31, .new 25), (34, .dup), (35, .aload_n 0), (36, .getfield 21), (39, .invokespecial 27), (42, .putfield 30), (45, .aload_n 0), (46, .new 34), (49, .dup), (50, .aload_n 0), (51, .getfield 21), (54, .invokespecial 36), (57, .putfield 37), (60, .aload_n 0), (61, .new 41), (64, .dup), (65, .invokespecial 43), (68, .putfield 44), (71, .aload_n 0), (72, .new 48), (75, .dup), (76, .invokespecial 50), (79, .putfield 51), (82, .aload_n 0), (83, .new 55), (86, .dup), (87, .invokespecial 57), (90, .putfield 58), (93, .aload_n 0), (94, .new 62), (97, .dup), (98, .invokespecial 64), (101, .putfield 65), (104, .aload_n 0), (105, .iconst 3), (106, .newarray .int), (108, .putfield 69), (111, .aload_n 0), (112, .iconst 2), (113, .newarray .int), (115, .putfield 73), (118, .aload_n 0), (119, .bipush 11), (121, .newarray .int), (123, .putfield 76), (126, .aload_n 0), (127, .bipush 6), (129, .newarray .int), (131, .putfield 79), (134, .aload_n 0), (135, .new 82), (138, .dup), (139, .invokespecial 84), (142, .putfield 85), (145, .aload_n 0), (146, .new 82), (149, .dup), (150, .invokespecial 84), (153, .putfield 89), (156, .aload_n 0), (157, .iconst 0), (158, .putfield 92), (161, .aload_n 0), (162, .iconst 0), (163, .putfield 96), (166, .aload_n 0), (167, .iconst 0), (168, .putfield 99), (171, .aload_n 0), (172, .lconst 1), (173, .putfield 103), (176, .return_)])
/-- LockOrchestra.feed(IIIII)I -/
def am_m137 : am_M := (11, false, 6, 6, (some .int), ⟨"LockOrchestra", "feed", "(IIIII)I"⟩, prog_1_method_2_code, [(0, .aload_n 0), (1, .getfield 10), (4, .invokevirtual 107), (7, .bipush 20), (9, .iadd), (10, .sipush 1600), (13, .if_icmp .le 9), (16, .aload_n 0), (17, .iconst 0), (18, .invokevirtual 111), (21, .ireturn), (22, .aload_n 0), (23, .getfield 10), (26, .iload_n 1), (27, .invokevirtual 115), (30, .aload_n 0), (31, .getfield 10), (34, .iload_n 2), (35, .invokevirtual 115), (38, .aload_n 0), (39, .getfield 10), (42, .iload_n 3), (43, .invokevirtual 115), (46, .aload_n 0), (47, .getfield 10), (50, .iload 4), (52, .invokevirtual 115), (55, .aload_n 0), (56, .getfield 10), (59, .iload 5), (61, .invokevirtual 115), (64, .aload_n 0), (65, .getfield 10), (68, .invokevirtual 107), (71, .ireturn)])
/-- LockOrchestra.refuse(I)I -/
def am_m138 : am_M := (11, false, 2, 2, (some .int), ⟨"LockOrchestra", "refuse", "(I)I"⟩, prog_1_method_39_code, [(0, .aload_n 0), (1, .getfield 79), (4, .iload_n 1), (5, .aload_n 0), (6, .getfield 79), (9, .iload_n 1), (10, .invokestatic 224), (13, .iconst 1), (14, .iadd), (15, .invokestatic 220), (18, .iconst (-1)), (19, .ireturn)])
/-- LockOrchestra.cell([II)I -/
def am_m139 : am_M := (11, false, 2, 2, (some .int), ⟨"LockOrchestra", "cell", "([II)I"⟩, prog_1_method_36_code, [(0, .iload_n 1), (1, .ifCond .lt 15), (4, .iload_n 1), (5, .aload_n 0), (6, .arraylength), (7, .if_icmp .ge 9), (10, .aload_n 0), (11, .iload_n 1), (12, .iaload), (13, .goto 4), (16, .iconst 0), (17, .ireturn)])
/-- LockOrchestra.setCell([III)V -/
def am_m140 : am_M := (11, false, 3, 3, none, ⟨"LockOrchestra", "setCell", "([III)V"⟩, prog_1_method_37_code, [(0, .iload_n 1), (1, .ifCond .lt 13), (4, .iload_n 1), (5, .aload_n 0), (6, .arraylength), (7, .if_icmp .ge 7), (10, .aload_n 0), (11, .iload_n 1), (12, .iload_n 2), (13, .iastore), (14, .return_)])
/-- LockOrchestra.end(I)Z -/
def am_m141 : am_M := (11, false, 2, 2, (some .boolean), ⟨"LockOrchestra", "end", "(I)Z"⟩, prog_1_method_3_code, [(0, .iload_n 1), (1, .ifCond .lt 14), (4, .iload_n 1), (5, .aload_n 0), (6, .getfield 10), (9, .invokevirtual 107), (12, .if_icmp .le 11), (15, .aload_n 0), (16, .iconst 0), (17, .invokevirtual 111), (20, .pop), (21, .iconst 0), (22, .ireturn), (23, .aload_n 0), (24, .getfield 10), (27, .iload_n 1), (28, .invokevirtual 119), (31, .iconst 1), (32, .ireturn)])
/-- LockOrchestra.hall()I -/
def am_m142 : am_M := (11, false, 1, 3, (some .int), ⟨"LockOrchestra", "hall", "()I"⟩, prog_1_method_4_code, [(0, .aload_n 0), (1, .getfield 30), (4, .aload_n 0), (5, .getfield 89), (8, .invokevirtual 122), (11, .istore_n 1), (12, .aload_n 0), (13, .getfield 10), (16, .iconst 0), (17, .invokevirtual 119), (20, .iload_n 1), (21, .iconst (-1)), (22, .if_icmp .ne 9), (25, .aload_n 0), (26, .iconst 1), (27, .invokevirtual 111), (30, .ireturn), (31, .aload_n 0), (32, .getfield 89), (35, .astore_n 2), (36, .aload_n 0), (37, .aload_n 0), (38, .getfield 85), (41, .putfield 89), (44, .aload_n 0), (45, .aload_n 2), (46, .putfield 85), (49, .aload_n 0), (50, .getfield 65), (53, .aload_n 0), (54, .getfield 85), (57, .invokevirtual 126), (60, .iconst 0), (61, .invokevirtual 129), (64, .aload_n 0), (65, .getfield 58), (68, .invokevirtual 133), (71, .aload_n 0), (72, .iconst 0), (73, .putfield 92), (76, .aload_n 0), (77, .iconst 0), (78, .putfield 96), (81, .iload_n 1), (82, .ireturn)])
/-- LockOrchestra.fault(I)I -/
def am_m143 : am_M := (11, false, 2, 2, (some .int), ⟨"LockOrchestra", "fault", "(I)I"⟩, prog_1_method_5_code, [(0, .iload_n 1), (1, .ifCond .ne 11), (4, .aload_n 0), (5, .getfield 21), (8, .invokevirtual 136), (11, .ireturn), (12, .iload_n 1), (13, .iconst 1), (14, .if_icmp .ne 13), (17, .aload_n 0), (18, .getfield 21), (21, .invokevirtual 139), (24, .goto 4), (27, .iconst (-1)), (28, .ireturn)])
/-- LockOrchestra.has(I)I -/
def am_m144 : am_M := (11, false, 2, 2, (some .int), ⟨"LockOrchestra", "has", "(I)I"⟩, prog_1_method_6_code, [(0, .iload_n 1), (1, .tableswitch 138 0 10 #[59, 59, 59, 59, 68, 76, 84, 99, 114, 122, 130]), (60, .aload_n 0), (61, .getfield 85), (64, .iload_n 1), (65, .invokevirtual 142), (68, .ireturn), (69, .aload_n 0), (70, .getfield 85), (73, .invokevirtual 145), (76, .ireturn), (77, .aload_n 0), (78, .getfield 65), (81, .invokevirtual 148), (84, .ireturn), (85, .aload_n 0), (86, .getfield 85), (89, .aload_n 0), (90, .getfield 65), (93, .invokevirtual 151), (96, .invokevirtual 154), (99, .ireturn), (100, .aload_n 0), (101, .getfield 85), (104, .aload_n 0), (105, .getfield 65), (108, .invokevirtual 151), (111, .invokevirtual 157), (114, .ireturn), (115, .aload_n 0), (116, .getfield 65), (119, .invokevirtual 160), (122, .ireturn), (123, .aload_n 0), (124, .getfield 58), (127, .invokevirtual 163), (130, .ireturn), (131, .aload_n 0), (132, .getfield 65), (135, .invokevirtual 166), (138, .ireturn), (139, .iconst (-1)), (140, .ireturn)])
/-- LockOrchestra.letter(III)I -/
def am_m145 : am_M := (11, false, 4, 4, (some .int), ⟨"LockOrchestra", "letter", "(III)I"⟩, prog_1_method_7_code, [(0, .aload_n 0), (1, .getfield 85), (4, .iload_n 1), (5, .iload_n 2), (6, .invokevirtual 169), (9, .ifCond .eq 13), (12, .iload_n 3), (13, .ifCond .lt 9), (16, .iload_n 3), (17, .bipush 6), (19, .if_icmp .lt 5), (22, .iconst (-1)), (23, .ireturn), (24, .aload_n 0), (25, .getfield 85), (28, .iload_n 1), (29, .iload_n 2), (30, .invokevirtual 173), (33, .iconst 5), (34, .iload_n 3), (35, .imul), (36, .iushr), (37, .bipush 31), (39, .iand), (40, .ireturn)])
/-- LockOrchestra.lock(II)I -/
def am_m146 : am_M := (11, false, 3, 3, (some .int), ⟨"LockOrchestra", "lock", "(II)I"⟩, prog_1_method_8_code, [(0, .aload_n 0), (1, .getfield 85), (4, .iconst 0), (5, .iload_n 1), (6, .invokevirtual 169), (9, .ifCond .ne 5), (12, .iconst (-1)), (13, .ireturn), (14, .iload_n 2), (15, .tableswitch 107 0 4 #[33, 42, 58, 74, 83]), (48, .aload_n 0), (49, .getfield 85), (52, .iload_n 1), (53, .invokevirtual 177), (56, .ireturn), (57, .aload_n 0), (58, .getfield 85), (61, .aload_n 0), (62, .getfield 65), (65, .invokevirtual 151), (68, .iload_n 1), (69, .invokevirtual 180), (72, .ireturn), (73, .aload_n 0), (74, .getfield 85), (77, .aload_n 0), (78, .getfield 85), (81, .invokevirtual 126), (84, .iload_n 1), (85, .invokevirtual 180), (88, .ireturn), (89, .aload_n 0), (90, .getfield 85), (93, .iload_n 1), (94, .invokevirtual 183), (97, .ireturn), (98, .aload_n 0), (99, .getfield 85), (102, .aload_n 0), (103, .getfield 65), (106, .invokevirtual 151), (109, .iload_n 1), (110, .invokevirtual 186), (113, .ifCond .eq 7), (116, .iconst 1), (117, .goto 4), (120, .iconst 0), (121, .ireturn), (122, .iconst (-1)), (123, .ireturn)])
/-- LockOrchestra.note(II)I -/
def am_m147 : am_M := (11, false, 3, 3, (some .int), ⟨"LockOrchestra", "note", "(II)I"⟩, prog_1_method_9_code, [(0, .aload_n 0), (1, .getfield 85), (4, .iconst 1), (5, .iload_n 1), (6, .invokevirtual 169), (9, .ifCond .ne 5), (12, .iconst (-1)), (13, .ireturn), (14, .iload_n 2), (15, .ifCond .ne 27), (18, .aload_n 0), (19, .getfield 85), (22, .aload_n 0), (23, .getfield 65), (26, .invokevirtual 151), (29, .iload_n 1), (30, .invokevirtual 189), (33, .ifCond .eq 7), (36, .iconst 1), (37, .goto 4), (40, .iconst 0), (41, .ireturn), (42, .iload_n 2), (43, .iconst 1), (44, .if_icmp .ne 12), (47, .aload_n 0), (48, .getfield 85), (51, .iload_n 1), (52, .invokevirtual 192), (55, .ireturn), (56, .iload_n 2), (57, .bipush 10), (59, .if_icmp .lt 33), (62, .aload_n 0), (63, .getfield 85), (66, .iconst 0), (67, .iload_n 2), (68, .bipush 10), (70, .isub), (71, .invokevirtual 169), (74, .ifCond .eq 18), (77, .aload_n 0), (78, .getfield 85), (81, .iload_n 1), (82, .iload_n 2), (83, .bipush 10), (85, .isub), (86, .invokevirtual 195), (89, .goto 4), (92, .iconst (-1)), (93, .ireturn)])
/-- LockOrchestra.door(I)I -/
def am_m148 : am_M := (11, false, 2, 2, (some .int), ⟨"LockOrchestra", "door", "(I)I"⟩, prog_1_method_10_code, [(0, .aload_n 0), (1, .getfield 85), (4, .iconst 2), (5, .iload_n 1), (6, .invokevirtual 169), (9, .ifCond .eq 24), (12, .aload_n 0), (13, .getfield 85), (16, .aload_n 0), (17, .getfield 65), (20, .invokevirtual 151), (23, .invokevirtual 157), (26, .iload_n 1), (27, .ishr), (28, .iconst 1), (29, .iand), (30, .goto 4), (33, .iconst (-1)), (34, .ireturn)])
/-- LockOrchestra.player(I)I -/
def am_m149 : am_M := (11, false, 2, 2, (some .int), ⟨"LockOrchestra", "player", "(I)I"⟩, prog_1_method_11_code, [(0, .aload_n 0), (1, .getfield 85), (4, .iconst 3), (5, .iload_n 1), (6, .invokevirtual 169), (9, .ifCond .eq 14), (12, .aload_n 0), (13, .getfield 85), (16, .iload_n 1), (17, .invokevirtual 198), (20, .goto 4), (23, .iconst (-1)), (24, .ireturn)])
/-- LockOrchestra.kept(II)I -/
def am_m150 : am_M := (11, false, 3, 3, (some .int), ⟨"LockOrchestra", "kept", "(II)I"⟩, prog_1_method_12_code, [(0, .aload_n 0), (1, .getfield 65), (4, .iload_n 1), (5, .iload_n 2), (6, .invokevirtual 201), (9, .ireturn)])
/-- LockOrchestra.judge()I -/
def am_m151 : am_M := (11, false, 1, 5, (some .int), ⟨"LockOrchestra", "judge", "()I"⟩, prog_1_method_13_code, [(0, .aload_n 0), (1, .getfield 51), (4, .aload_n 0), (5, .getfield 10), (8, .aload_n 0), (9, .getfield 85), (12, .invokevirtual 204), (15, .ifCond .ne 9), (18, .aload_n 0), (19, .iconst 1), (20, .invokevirtual 111), (23, .ireturn), (24, .aload_n 0), (25, .getfield 65), (28, .invokevirtual 151), (31, .istore_n 1), (32, .iconst 0), (33, .istore_n 2), (34, .iconst 0), (35, .istore_n 3), (36, .iload_n 3), (37, .aload_n 0), (38, .getfield 51), (41, .invokevirtual 208), (44, .if_icmp .ge 75), (47, .aload_n 0), (48, .getfield 85), (51, .iload_n 1), (52, .aload_n 0), (53, .getfield 51), (56, .iload_n 3), (57, .invokevirtual 209), (60, .invokevirtual 189), (63, .ifCond .eq 56), (66, .aload_n 0), (67, .getfield 85), (70, .iload_n 1), (71, .aload_n 0), (72, .getfield 51), (75, .iload_n 3), (76, .invokevirtual 209), (79, .invokevirtual 212), (82, .istore 4), (84, .iload_n 2), (85, .aload_n 0), (86, .getfield 85), (89, .iload 4), (91, .invokevirtual 157), (94, .aload_n 0), (95, .getfield 85), (98, .iload_n 1), (99, .invokevirtual 157), (102, .iconst (-1)), (103, .ixor), (104, .iand), (105, .invokestatic 215), (108, .iadd), (109, .istore_n 2), (110, .iload 4), (112, .istore_n 1), (113, .iinc 3 1), (116, .goto (-80)), (119, .aload_n 0), (120, .getfield 69), (123, .iconst 0), (124, .aload_n 0), (125, .getfield 85), (128, .iload_n 1), (129, .invokevirtual 157), (132, .invokestatic 220), (135, .aload_n 0), (136, .getfield 69), (139, .iconst 1), (140, .aload_n 0), (141, .getfield 85), (144, .iload_n 1), (145, .invokevirtual 154), (148, .invokestatic 220), (151, .aload_n 0), (152, .getfield 69), (155, .iconst 2), (156, .iload_n 2), (157, .invokestatic 220), (160, .aload_n 0), (161, .iconst 1), (162, .putfield 92), (165, .iload_n 3), (166, .ireturn)])
/-- LockOrchestra.judged(I)I -/
def am_m152 : am_M := (11, false, 2, 2, (some .int), ⟨"LockOrchestra", "judged", "(I)I"⟩, prog_1_method_14_code, [(0, .aload_n 0), (1, .getfield 92), (4, .ifCond .eq 23), (7, .iload_n 1), (8, .ifCond .lt 19), (11, .iload_n 1), (12, .iconst 3), (13, .if_icmp .ge 14), (16, .aload_n 0), (17, .getfield 69), (20, .iload_n 1), (21, .invokestatic 224), (24, .goto 4), (27, .iconst (-1)), (28, .ireturn)])
/-- LockOrchestra.shortest(II)I -/
def am_m153 : am_M := (11, false, 3, 3, (some .int), ⟨"LockOrchestra", "shortest", "(II)I"⟩, prog_1_method_15_code, [(0, .aload_n 0), (1, .getfield 85), (4, .iload_n 1), (5, .invokevirtual 228), (8, .ifCond .ne 5), (11, .iconst (-1)), (12, .ireturn), (13, .aload_n 0), (14, .getfield 44), (17, .iload_n 1), (18, .invokevirtual 232), (21, .aload_n 0), (22, .getfield 44), (25, .aload_n 0), (26, .getfield 44), (29, .aload_n 0), (30, .getfield 85), (33, .aload_n 0), (34, .getfield 65), (37, .invokevirtual 151), (40, .aload_n 0), (41, .getfield 85), (44, .iconst 1), (45, .invokevirtual 235), (48, .invokevirtual 238), (51, .iload_n 2), (52, .invokevirtual 242), (55, .ireturn)])
/-- LockOrchestra.back(I)I -/
def am_m154 : am_M := (11, false, 2, 2, (some .int), ⟨"LockOrchestra", "back", "(I)I"⟩, prog_1_method_16_code, [(0, .aload_n 0), (1, .getfield 44), (4, .aload_n 0), (5, .getfield 85), (8, .invokevirtual 126), (11, .invokevirtual 245), (14, .aload_n 0), (15, .getfield 44), (18, .aload_n 0), (19, .getfield 44), (22, .aload_n 0), (23, .getfield 85), (26, .aload_n 0), (27, .getfield 65), (30, .invokevirtual 151), (33, .aload_n 0), (34, .getfield 85), (37, .iconst 1), (38, .invokevirtual 235), (41, .invokevirtual 238), (44, .iload_n 1), (45, .invokevirtual 242), (48, .ireturn)])
/-- LockOrchestra.states()I -/
def am_m155 : am_M := (11, false, 1, 1, (some .int), ⟨"LockOrchestra", "states", "()I"⟩, prog_1_method_17_code, [(0, .aload_n 0), (1, .getfield 44), (4, .invokevirtual 248), (7, .aload_n 0), (8, .getfield 44), (11, .aload_n 0), (12, .getfield 85), (15, .aload_n 0), (16, .getfield 65), (19, .invokevirtual 151), (22, .aload_n 0), (23, .getfield 85), (26, .iconst 1), (27, .invokevirtual 235), (30, .invokevirtual 238), (33, .pop), (34, .aload_n 0), (35, .getfield 44), (38, .invokevirtual 251), (41, .ireturn)])
/-- LockOrchestra.forbid(I)I -/
def am_m156 : am_M := (11, false, 2, 8, (some .int), ⟨"LockOrchestra", "forbid", "(I)I"⟩, prog_1_method_18_code, [(0, .aload_n 0), (1, .getfield 85), (4, .iload_n 1), (5, .invokevirtual 228), (8, .ifCond .eq 23), (11, .aload_n 0), (12, .getfield 85), (15, .aload_n 0), (16, .getfield 65), (19, .invokevirtual 151), (22, .invokevirtual 157), (25, .iload_n 1), (26, .iand), (27, .iload_n 1), (28, .if_icmp .ne 5), (31, .iconst (-1)), (32, .ireturn), (33, .aload_n 0), (34, .getfield 85), (37, .iconst 1), (38, .invokevirtual 235), (41, .istore_n 2), (42, .aload_n 0), (43, .getfield 44), (46, .iload_n 1), (47, .invokevirtual 254), (50, .lconst 0), (51, .lstore_n 3), (52, .iconst 0), (53, .istore 5), (55, .iload 5), (57, .bipush 6), (59, .if_icmp .gt 98), (62, .iconst 0), (63, .istore 6), (65, .iload 6), (67, .iload_n 2), (68, .if_icmp .gt 83), (71, .iload 6), (73, .invokestatic 215), (76, .iload 5), (78, .if_icmp .ne 67), (81, .lload_n 3), (82, .iload 6), (84, .lshr), (85, .lconst 1), (86, .land), (87, .lconst 1), (88, .lcmp), (89, .ifCond .ne 6), (92, .goto 53), (95, .aload_n 0), (96, .getfield 44), (99, .aload_n 0), (100, .getfield 85), (103, .aload_n 0), (104, .getfield 65), (107, .invokevirtual 151), (110, .iload_n 2), (111, .iload 6), (113, .iconst (-1)), (114, .ixor), (115, .iand), (116, .invokevirtual 238), (119, .istore 7), (121, .iload 7), (123, .iconst (-1)), (124, .if_icmp .ne 6), (127, .iload 6), (129, .ireturn), (130, .lload_n 3), (131, .aload_n 0), (132, .getfield 44), (135, .iload 7), (137, .invokevirtual 257), (140, .invokestatic 260), (143, .lor), (144, .lstore_n 3), (145, .iinc 6 1), (148, .goto (-83)), (151, .iinc 5 1), (154, .goto (-99)), (157, .iconst (-1)), (158, .ireturn)])
/-- LockOrchestra.setsWithout(I)J -/
def am_m157 : am_M := (11, false, 1, 4, (some .long), ⟨"LockOrchestra", "setsWithout", "(I)J"⟩, prog_1_method_40_code, [(0, .lconst 0), (1, .lstore_n 1), (2, .iconst 0), (3, .istore_n 3), (4, .iload_n 3), (5, .bipush 64), (7, .if_icmp .ge 25), (10, .lload_n 1), (11, .iload_n 3), (12, .iload_n 0), (13, .iand), (14, .ifCond .ne 9), (17, .lconst 1), (18, .iload_n 3), (19, .lshl), (20, .goto 4), (23, .lconst 0), (24, .lor), (25, .lstore_n 1), (26, .iinc 3 1), (29, .goto (-25)), (32, .lload_n 1), (33, .lreturn)])
/-- LockOrchestra.share()I -/
def am_m158 : am_M := (11, false, 1, 4, (some .int), ⟨"LockOrchestra", "share", "()I"⟩, prog_1_method_19_code, [(0, .aload_n 0), (1, .getfield 51), (4, .aload_n 0), (5, .getfield 10), (8, .aload_n 0), (9, .getfield 85), (12, .invokevirtual 204), (15, .ifCond .ne 9), (18, .aload_n 0), (19, .iconst 1), (20, .invokevirtual 111), (23, .ireturn), (24, .aload_n 0), (25, .getfield 85), (28, .iconst 3), (29, .invokevirtual 235), (32, .istore_n 1), (33, .iconst 0), (34, .istore_n 2), (35, .iload_n 2), (36, .iconst 5), (37, .if_icmp .gt 47), (40, .iconst 0), (41, .istore_n 3), (42, .iload_n 3), (43, .iload_n 1), (44, .if_icmp .gt 34), (47, .iload_n 3), (48, .invokestatic 215), (51, .iload_n 2), (52, .if_icmp .ne 20), (55, .aload_n 0), (56, .getfield 51), (59, .aload_n 0), (60, .getfield 85), (63, .iload_n 3), (64, .invokevirtual 264), (67, .ifCond .eq 5), (70, .iload_n 3), (71, .ireturn), (72, .iinc 3 1), (75, .goto (-33)), (78, .iinc 2 1), (81, .goto (-46)), (84, .iconst (-1)), (85, .ireturn)])
/-- LockOrchestra.slip(I)I -/
def am_m159 : am_M := (11, false, 2, 5, (some .int), ⟨"LockOrchestra", "slip", "(I)I"⟩, prog_1_method_20_code, [(0, .aload_n 0), (1, .getfield 51), (4, .aload_n 0), (5, .getfield 10), (8, .aload_n 0), (9, .getfield 85), (12, .invokevirtual 204), (15, .ifCond .eq 14), (18, .aload_n 0), (19, .getfield 85), (22, .iload_n 1), (23, .invokevirtual 228), (26, .ifCond .ne 9), (29, .aload_n 0), (30, .iconst 1), (31, .invokevirtual 111), (34, .ireturn), (35, .aload_n 0), (36, .iconst 0), (37, .putfield 96), (40, .iconst 0), (41, .istore_n 2), (42, .iconst 0), (43, .istore_n 3), (44, .iload_n 3), (45, .aload_n 0), (46, .getfield 51), (49, .invokevirtual 208), (52, .if_icmp .ge 59), (55, .iconst 0), (56, .istore 4), (58, .iload 4), (60, .bipush 6), (62, .if_icmp .gt 43), (65, .iload 4), (67, .aload_n 0), (68, .getfield 51), (71, .iload_n 3), (72, .invokevirtual 209), (75, .if_icmp .eq 24), (78, .aload_n 0), (79, .iload_n 3), (80, .iload 4), (82, .iload_n 1), (83, .invokevirtual 268), (86, .ifCond .eq 13), (89, .aload_n 0), (90, .iload_n 3), (91, .iload 4), (93, .invokevirtual 272), (96, .iinc 2 1), (99, .iinc 4 1), (102, .goto (-44)), (105, .iinc 3 1), (108, .goto (-64)), (111, .iload_n 2), (112, .ireturn)])
/-- LockOrchestra.endsWith(III)Z -/
def am_m160 : am_M := (11, false, 4, 5, (some .boolean), ⟨"LockOrchestra", "endsWith", "(III)Z"⟩, prog_1_method_43_code, [(0, .aload_n 0), (1, .getfield 51), (4, .aload_n 0), (5, .getfield 85), (8, .aload_n 0), (9, .getfield 65), (12, .invokevirtual 151), (15, .iload_n 1), (16, .iload_n 2), (17, .invokevirtual 340), (20, .istore 4), (22, .iload 4), (24, .iconst (-1)), (25, .if_icmp .eq 20), (28, .aload_n 0), (29, .getfield 85), (32, .iload 4), (34, .invokevirtual 157), (37, .iload_n 3), (38, .if_icmp .ne 7), (41, .iconst 1), (42, .goto 4), (45, .iconst 0), (46, .ireturn)])
/-- LockOrchestra.keepFirstSlip(II)V -/
def am_m161 : am_M := (11, false, 3, 3, none, ⟨"LockOrchestra", "keepFirstSlip", "(II)V"⟩, prog_1_method_44_code, [(0, .aload_n 0), (1, .getfield 96), (4, .ifCond .ne 26), (7, .aload_n 0), (8, .getfield 73), (11, .iconst 0), (12, .iload_n 1), (13, .invokestatic 220), (16, .aload_n 0), (17, .getfield 73), (20, .iconst 1), (21, .iload_n 2), (22, .invokestatic 220), (25, .aload_n 0), (26, .iconst 1), (27, .putfield 96), (30, .return_)])
/-- LockOrchestra.slipped(I)I -/
def am_m162 : am_M := (11, false, 2, 2, (some .int), ⟨"LockOrchestra", "slipped", "(I)I"⟩, prog_1_method_21_code, [(0, .aload_n 0), (1, .getfield 96), (4, .ifCond .eq 23), (7, .iload_n 1), (8, .ifCond .lt 19), (11, .iload_n 1), (12, .iconst 2), (13, .if_icmp .ge 14), (16, .aload_n 0), (17, .getfield 73), (20, .iload_n 1), (21, .invokestatic 224), (24, .goto 4), (27, .iconst (-1)), (28, .ireturn)])
/-- LockOrchestra.hear()I -/
def am_m163 : am_M := (11, false, 1, 1, (some .int), ⟨"LockOrchestra", "hear", "()I"⟩, prog_1_method_22_code, [(0, .aload_n 0), (1, .getfield 58), (4, .aload_n 0), (5, .getfield 10), (8, .aload_n 0), (9, .getfield 85), (12, .invokevirtual 275), (15, .ifCond .eq 13), (18, .aload_n 0), (19, .getfield 58), (22, .invokevirtual 163), (25, .goto 8), (28, .aload_n 0), (29, .iconst 1), (30, .invokevirtual 111), (33, .ireturn)])
/-- LockOrchestra.starts(I)I -/
def am_m164 : am_M := (11, false, 2, 6, (some .int), ⟨"LockOrchestra", "starts", "(I)I"⟩, prog_1_method_23_code, [(0, .aload_n 0), (1, .getfield 58), (4, .invokevirtual 163), (7, .ifCond .eq 12), (10, .iload_n 1), (11, .ifCond .lt 8), (14, .iload_n 1), (15, .iconst 2), (16, .if_icmp .le 5), (19, .iconst (-1)), (20, .ireturn), (21, .iconst 0), (22, .istore_n 2), (23, .iconst (-1)), (24, .istore_n 3), (25, .iconst (-1)), (26, .istore 4), (28, .iconst 0), (29, .istore 5), (31, .iload 5), (33, .aload_n 0), (34, .getfield 85), (37, .invokevirtual 276), (40, .if_icmp .ge 52), (43, .iload 5), (45, .sipush 10000), (48, .if_icmp .ge 44), (51, .aload_n 0), (52, .getfield 58), (55, .aload_n 0), (56, .getfield 85), (59, .iload 5), (61, .invokevirtual 279), (64, .ifCond .eq 22), (67, .iinc 2 1), (70, .iload_n 3), (71, .iconst (-1)), (72, .if_icmp .ne 8), (75, .iload 5), (77, .goto 4), (80, .iload_n 3), (81, .istore_n 3), (82, .iload 5), (84, .istore 4), (86, .iinc 5 1), (89, .goto (-58)), (92, .iload_n 1), (93, .ifCond .ne 5), (96, .iload_n 2), (97, .ireturn), (98, .iload_n 1), (99, .iconst 1), (100, .if_icmp .ne 7), (103, .iload_n 3), (104, .goto 5), (107, .iload 4), (109, .ireturn)])
/-- LockOrchestra.hangs(I)I -/
def am_m165 : am_M := (11, false, 2, 7, (some .int), ⟨"LockOrchestra", "hangs", "(I)I"⟩, prog_1_method_24_code, [(0, .aload_n 0), (1, .getfield 85), (4, .iconst 2), (5, .iload_n 1), (6, .invokevirtual 169), (9, .ifCond .ne 5), (12, .iconst (-1)), (13, .ireturn), (14, .iconst 0), (15, .istore_n 2), (16, .aload_n 0), (17, .getfield 65), (20, .invokevirtual 151), (23, .istore_n 3), (24, .iconst 0), (25, .istore 4), (27, .iload 4), (29, .aload_n 0), (30, .getfield 85), (33, .iconst 0), (34, .invokevirtual 142), (37, .if_icmp .ge 79), (40, .iconst 0), (41, .istore 5), (43, .iload 5), (45, .aload_n 0), (46, .getfield 85), (49, .iload 4), (51, .invokevirtual 177), (54, .if_icmp .ge 56), (57, .aload_n 0), (58, .getfield 85), (61, .aload_n 0), (62, .getfield 85), (65, .iload_n 3), (66, .iload 4), (68, .iload 5), (70, .invokevirtual 282), (73, .invokevirtual 157), (76, .istore 6), (78, .iload 6), (80, .aload_n 0), (81, .getfield 85), (84, .iload_n 3), (85, .invokevirtual 157), (88, .ixor), (89, .iload_n 1), (90, .ishr), (91, .iconst 1), (92, .iand), (93, .iconst 1), (94, .if_icmp .ne 10), (97, .iload_n 2), (98, .iconst 1), (99, .iload 4), (101, .ishl), (102, .ior), (103, .istore_n 2), (104, .iinc 5 1), (107, .goto (-64)), (110, .iinc 4 1), (113, .goto (-86)), (116, .iload_n 2), (117, .ireturn)])
/-- LockOrchestra.play(I)I -/
def am_m166 : am_M := (11, false, 2, 2, (some .int), ⟨"LockOrchestra", "play", "(I)I"⟩, prog_1_method_25_code, [(0, .aload_n 0), (1, .getfield 85), (4, .aload_n 0), (5, .getfield 65), (8, .invokevirtual 151), (11, .iload_n 1), (12, .invokevirtual 189), (15, .ifCond .ne 9), (18, .aload_n 0), (19, .iconst 2), (20, .invokevirtual 111), (23, .ireturn), (24, .aload_n 0), (25, .getfield 65), (28, .invokevirtual 286), (31, .aload_n 0), (32, .iload_n 1), (33, .invokevirtual 289), (36, .aload_n 0), (37, .getfield 85), (40, .aload_n 0), (41, .getfield 65), (44, .invokevirtual 151), (47, .invokevirtual 157), (50, .ireturn)])
/-- LockOrchestra.playOne(I)V -/
def am_m167 : am_M := (11, false, 2, 3, none, ⟨"LockOrchestra", "playOne", "(I)V"⟩, prog_1_method_41_code, [(0, .aload_n 0), (1, .getfield 65), (4, .invokevirtual 151), (7, .istore_n 2), (8, .aload_n 0), (9, .getfield 65), (12, .aload_n 0), (13, .getfield 85), (16, .iload_n 2), (17, .iload_n 1), (18, .invokevirtual 212), (21, .invokevirtual 295), (24, .aload_n 0), (25, .getfield 65), (28, .invokevirtual 329), (31, .aload_n 0), (32, .getfield 65), (35, .aload_n 0), (36, .getfield 85), (39, .iload_n 2), (40, .invokevirtual 157), (43, .aload_n 0), (44, .getfield 85), (47, .aload_n 0), (48, .getfield 65), (51, .invokevirtual 151), (54, .invokevirtual 157), (57, .invokevirtual 298), (60, .return_)])
/-- LockOrchestra.piece()I -/
def am_m168 : am_M := (11, false, 1, 2, (some .int), ⟨"LockOrchestra", "piece", "()I"⟩, prog_1_method_26_code, [(0, .aload_n 0), (1, .getfield 51), (4, .aload_n 0), (5, .getfield 10), (8, .aload_n 0), (9, .getfield 85), (12, .invokevirtual 204), (15, .ifCond .eq 13), (18, .aload_n 0), (19, .getfield 51), (22, .invokevirtual 208), (25, .ifCond .ne 9), (28, .aload_n 0), (29, .iconst 2), (30, .invokevirtual 111), (33, .ireturn), (34, .aload_n 0), (35, .getfield 65), (38, .invokevirtual 286), (41, .iconst 0), (42, .istore_n 1), (43, .iload_n 1), (44, .aload_n 0), (45, .getfield 51), (48, .invokevirtual 208), (51, .if_icmp .ge 46), (54, .aload_n 0), (55, .getfield 85), (58, .aload_n 0), (59, .getfield 65), (62, .invokevirtual 151), (65, .aload_n 0), (66, .getfield 51), (69, .iload_n 1), (70, .invokevirtual 209), (73, .invokevirtual 189), (76, .ifCond .eq 21), (79, .aload_n 0), (80, .aload_n 0), (81, .getfield 51), (84, .iload_n 1), (85, .invokevirtual 209), (88, .invokevirtual 289), (91, .iinc 1 1), (94, .goto (-51)), (97, .iload_n 1), (98, .ireturn)])
/-- LockOrchestra.oil(I)Z -/
def am_m169 : am_M := (11, false, 2, 3, (some .boolean), ⟨"LockOrchestra", "oil", "(I)Z"⟩, prog_1_method_27_code, [(0, .aload_n 0), (1, .getfield 65), (4, .invokevirtual 151), (7, .istore_n 2), (8, .aload_n 0), (9, .getfield 85), (12, .iconst 0), (13, .iload_n 1), (14, .invokevirtual 169), (17, .ifCond .eq 15), (20, .aload_n 0), (21, .getfield 85), (24, .iload_n 2), (25, .iload_n 1), (26, .invokevirtual 186), (29, .ifCond .ne 11), (32, .aload_n 0), (33, .iconst 3), (34, .invokevirtual 111), (37, .pop), (38, .iconst 0), (39, .ireturn), (40, .aload_n 0), (41, .getfield 65), (44, .invokevirtual 286), (47, .aload_n 0), (48, .getfield 65), (51, .aload_n 0), (52, .getfield 85), (55, .iload_n 2), (56, .iload_n 1), (57, .invokevirtual 292), (60, .invokevirtual 295), (63, .aload_n 0), (64, .getfield 65), (67, .aload_n 0), (68, .getfield 85), (71, .iload_n 2), (72, .invokevirtual 157), (75, .aload_n 0), (76, .getfield 85), (79, .aload_n 0), (80, .getfield 65), (83, .invokevirtual 151), (86, .invokevirtual 157), (89, .invokevirtual 298), (92, .iconst 1), (93, .ireturn)])
/-- LockOrchestra.evening(I)I -/
def am_m170 : am_M := (11, false, 2, 5, (some .int), ⟨"LockOrchestra", "evening", "(I)I"⟩, prog_1_method_28_code, [(0, .iload_n 1), (1, .iconst 1), (2, .if_icmp .lt 20), (5, .iload_n 1), (6, .bipush 50), (8, .if_icmp .gt 14), (11, .aload_n 0), (12, .getfield 85), (15, .iconst 1), (16, .invokevirtual 142), (19, .ifCond .ne 9), (22, .aload_n 0), (23, .iconst 3), (24, .invokevirtual 111), (27, .ireturn), (28, .aload_n 0), (29, .getfield 65), (32, .invokevirtual 286), (35, .iconst 0), (36, .istore_n 2), (37, .iconst 0), (38, .istore_n 3), (39, .iload_n 3), (40, .iload_n 1), (41, .if_icmp .ge 109), (44, .aload_n 0), (45, .aload_n 0), (46, .getfield 85), (49, .iconst 1), (50, .invokevirtual 142), (53, .invokevirtual 301), (56, .istore 4), (58, .aload_n 0), (59, .getfield 85), (62, .aload_n 0), (63, .getfield 65), (66, .invokevirtual 151), (69, .iload 4), (71, .invokevirtual 189), (74, .ifCond .eq 15), (77, .aload_n 0), (78, .iload 4), (80, .invokevirtual 289), (83, .iinc 2 1), (86, .goto 9), (89, .aload_n 0), (90, .bipush 6), (92, .invokevirtual 289), (95, .aload_n 0), (96, .bipush 100), (98, .invokevirtual 301), (101, .aload_n 0), (102, .getfield 85), (105, .invokevirtual 145), (108, .if_icmp .ge 36), (111, .aload_n 0), (112, .getfield 65), (115, .aload_n 0), (116, .getfield 85), (119, .aload_n 0), (120, .getfield 65), (123, .invokevirtual 151), (126, .aload_n 0), (127, .aload_n 0), (128, .getfield 85), (131, .iconst 0), (132, .invokevirtual 142), (135, .invokevirtual 301), (138, .invokevirtual 304), (141, .invokevirtual 295), (144, .iinc 3 1), (147, .goto (-108)), (150, .iload_n 2), (151, .ireturn)])
/-- LockOrchestra.draw(I)I -/
def am_m171 : am_M := (11, false, 2, 2, (some .int), ⟨"LockOrchestra", "draw", "(I)I"⟩, prog_1_method_42_code, [(0, .aload_n 0), (1, .ldc2_w 332), (4, .aload_n 0), (5, .getfield 103), (8, .lmul), (9, .ldc2_w 334), (12, .ladd), (13, .ldc2_w 336), (16, .lrem), (17, .putfield 103), (20, .iload_n 1), (21, .ifCond .le 18), (24, .aload_n 0), (25, .getfield 103), (28, .ldc2_w 338), (31, .ldiv), (32, .iload_n 1), (33, .i2l), (34, .lrem), (35, .l2i), (36, .goto 4), (39, .iconst 0), (40, .ireturn)])
/-- LockOrchestra.undo()Z -/
def am_m172 : am_M := (11, false, 1, 1, (some .boolean), ⟨"LockOrchestra", "undo", "()Z"⟩, prog_1_method_29_code, [(0, .aload_n 0), (1, .getfield 65), (4, .invokevirtual 307), (7, .ifCond .ne 11), (10, .aload_n 0), (11, .iconst 4), (12, .invokevirtual 111), (15, .pop), (16, .iconst 0), (17, .ireturn), (18, .iconst 1), (19, .ireturn)])
/-- LockOrchestra.seed(I)Z -/
def am_m173 : am_M := (11, false, 2, 2, (some .boolean), ⟨"LockOrchestra", "seed", "(I)Z"⟩, prog_1_method_30_code, [(0, .iload_n 1), (1, .ifCond .ge 11), (4, .aload_n 0), (5, .iconst 5), (6, .invokevirtual 111), (9, .pop), (10, .iconst 0), (11, .ireturn), (12, .aload_n 0), (13, .iload_n 1), (14, .i2l), (15, .putfield 103), (18, .iconst 1), (19, .ireturn)])
/-- LockOrchestra.ask()J -/
def am_m174 : am_M := (11, false, 1, 2, (some .long), ⟨"LockOrchestra", "ask", "()J"⟩, prog_1_method_31_code, [(0, .aload_n 0), (1, .getfield 37), (4, .invokevirtual 311), (7, .istore_n 1), (8, .aload_n 0), (9, .getfield 10), (12, .iconst 0), (13, .invokevirtual 119), (16, .iload_n 1), (17, .ifCond .eq 24), (20, .aload_n 0), (21, .getfield 37), (24, .aload_n 0), (25, .getfield 85), (28, .aload_n 0), (29, .getfield 65), (32, .invokevirtual 151), (35, .invokevirtual 314), (38, .goto 6), (41, .ldc2_w 318), (44, .lreturn)])
/-- LockOrchestra.image()I -/
def am_m175 : am_M := (11, false, 1, 4, (some .int), ⟨"LockOrchestra", "image", "()I"⟩, prog_1_method_32_code, [(0, .iconst 0), (1, .istore_n 1), (2, .aload_n 0), (3, .getfield 76), (6, .iload_n 1), (7, .iinc 1 1), (10, .aload_n 0), (11, .getfield 65), (14, .invokevirtual 148), (17, .sipush 256), (20, .idiv), (21, .invokestatic 220), (24, .aload_n 0), (25, .getfield 76), (28, .iload_n 1), (29, .iinc 1 1), (32, .aload_n 0), (33, .getfield 65), (36, .invokevirtual 148), (39, .sipush 256), (42, .irem), (43, .invokestatic 220), (46, .iconst 0), (47, .istore_n 2), (48, .iload_n 2), (49, .aload_n 0), (50, .getfield 85), (53, .iconst 0), (54, .invokevirtual 142), (57, .if_icmp .ge 69), (60, .aload_n 0), (61, .getfield 76), (64, .iload_n 1), (65, .iinc 1 1), (68, .aload_n 0), (69, .getfield 85), (72, .aload_n 0), (73, .getfield 65), (76, .invokevirtual 151), (79, .iload_n 2), (80, .invokevirtual 180), (83, .invokestatic 220), (86, .aload_n 0), (87, .getfield 76), (90, .iload_n 1), (91, .iinc 1 1), (94, .aload_n 0), (95, .getfield 85), (98, .aload_n 0), (99, .getfield 65), (102, .invokevirtual 151), (105, .iload_n 2), (106, .invokevirtual 186), (109, .ifCond .eq 7), (112, .iconst 1), (113, .goto 4), (116, .iconst 0), (117, .invokestatic 220), (120, .iinc 2 1), (123, .goto (-75)), (126, .bipush 11), (128, .istore_n 2), (129, .iconst 0), (130, .istore_n 3), (131, .iload_n 3), (132, .iload_n 1), (133, .if_icmp .ge 22), (136, .iload_n 2), (137, .aload_n 0), (138, .getfield 76), (141, .iload_n 3), (142, .invokestatic 224), (145, .invokestatic 320), (148, .istore_n 2), (149, .iinc 3 1), (152, .goto (-21)), (155, .aload_n 0), (156, .getfield 76), (159, .iload_n 1), (160, .iinc 1 1), (163, .iload_n 2), (164, .invokestatic 220), (167, .aload_n 0), (168, .iload_n 1), (169, .putfield 99), (172, .iload_n 1), (173, .ireturn)])
/-- LockOrchestra.nextCheck(II)I -/
def am_m176 : am_M := (11, false, 2, 2, (some .int), ⟨"LockOrchestra", "nextCheck", "(II)I"⟩, prog_1_method_38_code, [(0, .iconst 3), (1, .iload_n 0), (2, .imul), (3, .iload_n 1), (4, .iadd), (5, .sipush 251), (8, .irem), (9, .ireturn)])
/-- LockOrchestra.octet(I)I -/
def am_m177 : am_M := (11, false, 2, 2, (some .int), ⟨"LockOrchestra", "octet", "(I)I"⟩, prog_1_method_33_code, [(0, .iload_n 1), (1, .ifCond .lt 22), (4, .iload_n 1), (5, .aload_n 0), (6, .getfield 99), (9, .if_icmp .ge 14), (12, .aload_n 0), (13, .getfield 76), (16, .iload_n 1), (17, .invokestatic 224), (20, .goto 4), (23, .iconst (-1)), (24, .ireturn)])
/-- LockOrchestra.on()Z -/
def am_m178 : am_M := (11, false, 1, 3, (some .boolean), ⟨"LockOrchestra", "on", "()Z"⟩, prog_1_method_34_code, [(0, .aload_n 0), (1, .invokevirtual 323), (4, .istore_n 1), (5, .sipush 256), (8, .aload_n 0), (9, .getfield 10), (12, .iconst 0), (13, .invokevirtual 326), (16, .imul), (17, .aload_n 0), (18, .getfield 10), (21, .iconst 1), (22, .invokevirtual 326), (25, .iadd), (26, .istore_n 2), (27, .aload_n 0), (28, .getfield 10), (31, .iconst 0), (32, .invokevirtual 119), (35, .iload_n 1), (36, .iconst (-1)), (37, .if_icmp .eq 10), (40, .iload_n 2), (41, .sipush 9999), (44, .if_icmp .le 11), (47, .aload_n 0), (48, .iconst 5), (49, .invokevirtual 111), (52, .pop), (53, .iconst 0), (54, .ireturn), (55, .aload_n 0), (56, .getfield 65), (59, .iload_n 1), (60, .iload_n 2), (61, .invokevirtual 129), (64, .iconst 1), (65, .ireturn)])
/-- LockOrchestra.imagedState()I -/
def am_m179 : am_M := (11, false, 1, 7, (some .int), ⟨"LockOrchestra", "imagedState", "()I"⟩, prog_1_method_45_code, [(0, .iconst 3), (1, .iconst 2), (2, .aload_n 0), (3, .getfield 85), (6, .iconst 0), (7, .invokevirtual 142), (10, .imul), (11, .iadd), (12, .istore_n 1), (13, .aload_n 0), (14, .getfield 10), (17, .invokevirtual 107), (20, .iload_n 1), (21, .if_icmp .eq 5), (24, .iconst (-1)), (25, .ireturn), (26, .bipush 11), (28, .istore_n 2), (29, .iconst 0), (30, .istore_n 3), (31, .iload_n 3), (32, .iload_n 1), (33, .iconst 1), (34, .isub), (35, .if_icmp .ge 22), (38, .iload_n 2), (39, .aload_n 0), (40, .getfield 10), (43, .iload_n 3), (44, .invokevirtual 326), (47, .invokestatic 320), (50, .istore_n 2), (51, .iinc 3 1), (54, .goto (-23)), (57, .iload_n 2), (58, .aload_n 0), (59, .getfield 10), (62, .iload_n 1), (63, .iconst 1), (64, .isub), (65, .invokevirtual 326), (68, .if_icmp .eq 5), (71, .iconst (-1)), (72, .ireturn), (73, .aload_n 0), (74, .getfield 85), (77, .invokevirtual 126), (80, .istore_n 3), (81, .iconst 0), (82, .istore 4), (84, .iload 4), (86, .aload_n 0), (87, .getfield 85), (90, .iconst 0), (91, .invokevirtual 142), (94, .if_icmp .ge 95), (97, .aload_n 0), (98, .getfield 10), (101, .iconst 2), (102, .iconst 2), (103, .iload 4), (105, .imul), (106, .iadd), (107, .invokevirtual 326), (110, .istore 5), (112, .aload_n 0), (113, .getfield 10), (116, .iconst 3), (117, .iconst 2), (118, .iload 4), (120, .imul), (121, .iadd), (122, .invokevirtual 326), (125, .istore 6), (127, .iload 5), (129, .aload_n 0), (130, .getfield 85), (133, .iload 4), (135, .invokevirtual 177), (138, .if_icmp .ge 9), (141, .iload 6), (143, .iconst 1), (144, .if_icmp .le 5), (147, .iconst (-1)), (148, .ireturn), (149, .aload_n 0), (150, .getfield 85), (153, .iload_n 3), (154, .iload 4), (156, .iload 5), (158, .invokevirtual 282), (161, .istore_n 3), (162, .iload 6), (164, .iconst 1), (165, .if_icmp .ne 16), (168, .aload_n 0), (169, .getfield 85), (172, .iload_n 3), (173, .iload 4), (175, .invokevirtual 304), (178, .goto 4), (181, .iload_n 3), (182, .istore_n 3), (183, .iinc 4 1), (186, .goto (-102)), (189, .iload_n 3), (190, .ireturn)])
/-- LockOrchestra.status(I)I -/
def am_m180 : am_M := (11, false, 2, 2, (some .int), ⟨"LockOrchestra", "status", "(I)I"⟩, prog_1_method_35_code, [(0, .iload_n 1), (1, .ifCond .lt 23), (4, .iload_n 1), (5, .aload_n 0), (6, .getfield 79), (9, .arraylength), (10, .if_icmp .ge 14), (13, .aload_n 0), (14, .getfield 79), (17, .iload_n 1), (18, .invokestatic 224), (21, .goto 4), (24, .iconst (-1)), (25, .ireturn)])
/-- LockOrchestraModel.<init>()V -/
def am_m181 : am_M := (12, true, 1, 1, none, ⟨"LockOrchestraModel", "<init>", "()V"⟩, prog_14_method_1_code, [(0, .aload_n 0), (1, .invokespecial 1), (4, .aload_n 0), (5, .sipush 1600), (8, .newarray .int), (10, .putfield 7), (13, .aload_n 0), (14, .iconst (-1)), (15, .putfield 13), (18, .aload_n 0), (19, .bipush 6), (21, .newarray .int), (23, .putfield 17), (26, .aload_n 0), (27, .iconst 4), (28, .newarray .char), (30, .dup), (31, .iconst 0), (32, .bipush 108), (34, .castore), (35, .dup), (36, .iconst 1), (37, .bipush 111), (39, .castore), (40, .dup), (41, .iconst 2), (42, .bipush 99), (44, .castore), (45, .dup), (46, .iconst 3), (47, .bipush 107), (49, .castore), (50, .putfield 20), (53, .aload_n 0), (54, .iconst 5), (55, .newarray .char), (57, .dup), (58, .iconst 0), (59, .bipush 119), (61, .castore), (62, .dup), (63, .iconst 1), (64, .bipush 97), (66, .castore), (67, .dup), (68, .iconst 2), (69, .bipush 114), (71, .castore), (72, .dup), (73, .iconst 3), (74, .bipush 100), (76, .castore), (77, .dup), (78, .iconst 4), (79, .bipush 115), (81, .castore), (82, .putfield 24), (85, .aload_n 0), (86, .iconst 2), (87, .newarray .char), (89, .dup), (90, .iconst 0), (91, .bipush 97), (93, .castore), (94, .dup), (95, .iconst 1), (96, .bipush 116), (98, .castore), (99, .putfield 27), (102, .aload_n 0), (103, .iconst 4), (104, .newarray .char), (106, .dup), (107, .iconst 0), (108, .bipush 106), (110, .castore), (111, .dup), (112, .iconst 1), (113, .bipush 97), (115, .castore), (116, .dup), (117, .iconst 2), (118, .bipush 109), (120, .castore), (121, .dup), (122, .iconst 3), (123, .bipush 115), (125, .castore), (126, .putfield 30), (129, .aload_n 0), (130, .iconst 4), (131, .newarray .char), (133, .dup), (134, .iconst 0), (135, .bipush 110), (137, .castore), (138, .dup), (139, .iconst 1), (140, .bipush 111), (142, .castore), (143, .dup), (144, .iconst 2), (145, .bipush 116), (147, .castore), (148, .dup), (149, .iconst 3), (150, .bipush 101), (152, .castore), (153, .putfield 33), (156, .aload_n 0), (157, .iconst 5), (158, .newarray .char), (160, .dup), (161, .iconst 0), (162, .bipush 116), (164, .castore), (165, .dup), (166, .iconst 1), (167, .bipush 117), (169, .castore), (170, .dup), (171, .iconst 2), (172, .bipush 114), (174, .castore), (175, .dup), (176, .iconst 3), (177, .bipush 110), (179, .castore), (180, .dup), (181, .iconst 4), (182, .bipush 115), (184, .castore), (185, .putfield 36), (188, .aload_n 0), (189, .iconst 4), (190, .newarray .char), (192, .dup), (193, .iconst 0), (194, .bipush 100), (196, .castore), (197, .dup), (198, .iconst 1), (199, .bipush 111), (201, .castore), (202, .dup), (203, .iconst 2), (204, .bipush 111), (206, .castore), (207, .dup), (208, .iconst 3), (209, .bipush 114), (211, .castore), (212, .putfield 39), (215, .aload_n 0), (216, .iconst 5), (217, .newarray .char), (219, .dup), (220, .iconst 0), (221, .bipush 111), (223, .castore), (224, .dup), (225, .iconst 1), (226, .bipush 112), (228, .castore), (229, .dup), (230, .iconst 2), (231, .bipush 101), (233, .castore), (234, .dup), (235, .iconst 3), (236, .bipush 110), (238, .castore), (239, .dup), (240, .iconst 4), (241, .bipush 115), (243, .castore), (244, .putfield 42), (247, .aload_n 0), (248, .bipush 6), (250, .newarray .char), (252, .dup), (253, .iconst 0), (254, .bipush 112), (256, .castore), (257, .dup), (258, .iconst 1), (259, .bipush 108), (261, .castore), (262, .dup), (263, .iconst 2), (264, .bipush 97), (266, .castore), (267, .dup), (268, .iconst 3), (269, .bipush 121), (271, .castore), (272, .dup), (273, .iconst 4), (274, .bipush 101), (276, .castore), (277, .dup), (278, .iconst 5), (279, .bipush 114), (281, .castore), (282, .putfield 45), (285, .aload_n 0), (286, .iconst 5), (287, .newarray .char), (289, .dup), (290, .iconst 0), (291, .bipush 112), (293, .castore), (294, .dup), (295, .iconst 1), (296, .bipush 108), (298, .castore), (299, .dup), (300, .iconst 2), (301, .bipush 97), (303, .castore), (304, .dup), (305, .iconst 3), (306, .bipush 121), (308, .castore), (309, .dup), (310, .iconst 4), (311, .bipush 115), (313, .castore), (314, .putfield 48), (317, .aload_n 0), (318, .iconst 4), (319, .newarray .char), (321, .dup), (322, .iconst 0), (323, .bipush 114), (325, .castore), (326, .dup), (327, .iconst 1), (328, .bipush 117), (330, .castore), (331, .dup), (332, .iconst 2), (333, .bipush 115), (335, .castore), (336, .dup), (337, .iconst 3), (338, .bipush 116), (340, .castore), (341, .putfield 51), (344, .aload_n 0), (345, .iconst 4), (346, .newarray .char), (348, .dup), (349, .iconst 0), (350, .bipush 119), (352, .castore), (353, .dup), (354, .iconst 1), (355, .bipush 97), (357, .castore), (358, .dup), (359, .iconst 2), (360, .bipush 114), (362, .castore), (363, .dup), (364, .iconst 3), (365, .bipush 100), (367, .castore), (368, .putfield 54), (371, .aload_n 0), (372, .iconst 5), (373, .newarray .char), (375, .dup), (376, .iconst 0), (377, .bipush 115), (379, .castore), (380, .dup), (381, .iconst 1), (382, .bipush 116), (384, .castore), (385, .dup), (386, .iconst 2), (387, .bipush 117), (389, .castore), (390, .dup), (391, .iconst 3), (392, .bipush 99), (394, .castore), (395, .dup), (396, .iconst 4), (397, .bipush 107), (399, .castore), (400, .putfield 57), (403, .aload_n 0), (404, .bipush 6), (406, .newarray .char), (408, .dup), (409, .iconst 0), (410, .bipush 110), (412, .castore), (413, .dup), (414, .iconst 1), (415, .bipush 117), (417, .castore), (418, .dup), (419, .iconst 2), (420, .bipush 109), (422, .castore), (423, .dup), (424, .iconst 3), (425, .bipush 98), (427, .castore), (428, .dup), (429, .iconst 4), (430, .bipush 101), (432, .castore), (433, .dup), (434, .iconst 5), (435, .bipush 114), (437, .castore), (438, .putfield 60), (441, .aload_n 0), (442, .iconst 2), (443, .newarray .char), (445, .dup), (446, .iconst 0), (447, .bipush 111), (449, .castore), (450, .dup), (451, .iconst 1), (452, .bipush 114), (454, .castore), (455, .putfield 63), (458, .aload_n 0), (459, .iconst 3), (460, .newarray .char), (462, .dup), (463, .iconst 0), (464, .bipush 97), (466, .castore), (467, .dup), (468, .iconst 1), (469, .bipush 110), (471, .castore), (472, .dup), (473, .iconst 2), (474, .bipush 100), (476, .castore), (477, .putfield 66), (480, .aload_n 0), (481, .iconst 3), (482, .newarray .char), (484, .dup), (485, .iconst 0), (486, .bipush 110), (488, .castore), (489, .dup), (490, .iconst 1), (491, .bipush 111), (493, .castore), (494, .dup), (495, .iconst 2), (496, .bipush 116), (498, .castore), (499, .putfield 69), (502, .aload_n 0), (503, .iconst 3), (504, .newarray .char), (506, .dup), (507, .iconst 0), (508, .bipush 97), (510, .castore), (511, .dup), (512, .iconst 1), (513, .bipush 108), (515, .castore), (516, .dup), (517, .iconst 2), (518, .bipush 108), (520, .castore), (521, .putfield 72), (524, .aload_n 0), (525, .iconst 3), (526, .newarray .char), (528, .dup), (529, .iconst 0), (530, .bipush 109), (532, .castore), (533, .dup), (534, .iconst 1), (535, .bipush 105), (537, .castore), (538, .dup), (539, .iconst 2), (540, .bipush 110), (542, .castore), (543, .putfield 75), (546, .aload_n 0), (547, .iconst 3), (548, .newarray .char), (550, .dup), (551, .iconst 0), (552, .bipush 109), (554, .castore), (555, .dup), (556, .iconst 1), (557, .bipush 97), (559, .castore), (560, .dup), (561, .iconst 2), (562, .bipush 120), (564, .castore), (565, .putfield 78), (568, .aload_n 0), (569, .bipush 8), (571, .newarray .int), (573, .putfield 81), (576, .aload_n 0), (577, .bipush 48), (579, .newarray .long), (581, .putfield 84), (584, .aload_n 0), (585, .bipush 24), (587, .newarray .int), (589, .putfield 88), (592, .aload_n 0), (593, .bipush 48), (595, .newarray .int), (597, .putfield 91), (600, .aload_n 0), (601, .bipush 10), (603, .newarray .int), (605, .putfield 94), (608, .aload_n 0), (609, .iconst 2), (610, .newarray .int), (612, .putfield 97), (615, .aload_n 0), (616, .bipush 12), (618, .newarray .int), (620, .putfield 100), (623, .aload_n 0), (624, .bipush 12), (626, .newarray .int), (628, .putfield 103), (631, .aload_n 0), (632, .sipush 3200), (635, .newarray .int), (637, .putfield 106), (640, .aload_n 0), (641, .bipush 127), (643, .newarray .int), (645, .putfield 109), (648, .aload_n 0), (649, .bipush 127), (651, .newarray .int), (653, .putfield 112), (656, .aload_n 0), (657, .bipush 20), (659, .newarray .int), (661, .putfield 115), (664, .aload_n 0), (665, .sipush 10000), (668, .newarray .int), (670, .putfield 118), (673, .aload_n 0), (674, .sipush 10000), (677, .newarray .int), (679, .putfield 121), (682, .aload_n 0), (683, .sipush 10000), (686, .newarray .int), (688, .putfield 124), (691, .aload_n 0), (692, .sipush 10000), (695, .newarray .int), (697, .putfield 127), (700, .aload_n 0), (701, .iconst (-1)), (702, .putfield 130), (705, .aload_n 0), (706, .iconst (-1)), (707, .putfield 133), (710, .aload_n 0), (711, .bipush 40), (713, .newarray .int), (715, .putfield 136), (718, .aload_n 0), (719, .sipush 2540), (722, .newarray .int), (724, .putfield 139), (727, .aload_n 0), (728, .lconst 1), (729, .putfield 142), (732, .aload_n 0), (733, .iconst 5), (734, .newarray .char), (736, .dup), (737, .iconst 0), (738, .bipush 102), (740, .castore), (741, .dup), (742, .iconst 1), (743, .bipush 105), (745, .castore), (746, .dup), (747, .iconst 2), (748, .bipush 114), (750, .castore), (751, .dup), (752, .iconst 3), (753, .bipush 115), (755, .castore), (756, .dup), (757, .iconst 4), (758, .bipush 116), (760, .castore), (761, .putfield 146), (764, .aload_n 0), (765, .iconst 4), (766, .newarray .char), (768, .dup), (769, .iconst 0), (770, .bipush 108), (772, .castore), (773, .dup), (774, .iconst 1), (775, .bipush 97), (777, .castore), (778, .dup), (779, .iconst 2), (780, .bipush 115), (782, .castore), (783, .dup), (784, .iconst 3), (785, .bipush 116), (787, .castore), (788, .putfield 149), (791, .aload_n 0), (792, .iconst 5), (793, .newarray .char), (795, .dup), (796, .iconst 0), (797, .bipush 111), (799, .castore), (800, .dup), (801, .iconst 1), (802, .bipush 102), (804, .castore), (805, .dup), (806, .iconst 2), (807, .bipush 116), (809, .castore), (810, .dup), (811, .iconst 3), (812, .bipush 101), (814, .castore), (815, .dup), (816, .iconst 4), (817, .bipush 110), (819, .castore), (820, .putfield 152), (823, .aload_n 0), (824, .iconst 5), (825, .newarray .char), (827, .dup), (828, .iconst 0), (829, .bipush 116), (831, .castore), (832, .dup), (833, .iconst 1), (834, .bipush 111), (836, .castore), (837, .dup), (838, .iconst 2), (839, .bipush 116), (841, .castore), (842, .dup), (843, .iconst 3), (844, .bipush 97), (846, .castore), (847, .dup), (848, .iconst 4), (849, .bipush 108), (851, .castore), (852, .putfield 155), (855, .aload_n 0), (856, .iconst 4), (857, .newarray .char), (859, .dup), (860, .iconst 0), (861, .bipush 109), (863, .castore), (864, .dup), (865, .iconst 1), (866, .bipush 111), (868, .castore), (869, .dup), (870, .iconst 2), (871, .bipush 115), (873, .castore), (874, .dup), (875, .iconst 3), (876, .bipush 116), (878, .castore), (879, .putfield 158), (882, .aload_n 0), (883, .iconst 5), (884, .newarray .char), (886, .dup), (887, .iconst 0), (888, .bipush 108), (890, .castore), (891, .dup), (892, .iconst 1), (893, .bipush 101), (895, .castore), (896, .dup), (897, .iconst 2), (898, .bipush 97), (900, .castore), (901, .dup), (902, .iconst 3), (903, .bipush 115), (905, .castore), (906, .dup), (907, .iconst 4), (908, .bipush 116), (910, .castore), (911, .putfield 161), (914, .aload_n 0), (915, .iconst 3), (916, .newarray .char), (918, .dup), (919, .iconst 0), (920, .bipush 110), (922, .castore), (923, .dup), (924, .iconst 1), (925, .bipush 111), (927, .castore), (928, .dup), (929, .iconst 2), (930, .bipush 116), (932, .castore), (933, .putfield 164), (936, .aload_n 0), (937, .iconst 3), (938, .newarray .char), (940, .dup), (941, .iconst 0), (942, .bipush 97), (944, .castore), (945, .dup), (946, .iconst 1), (947, .bipush 110), (949, .castore), (950, .dup), (951, .iconst 2), (952, .bipush 100), (954, .castore), (955, .putfield 167), (958, .aload_n 0), (959, .iconst 2), (960, .newarray .char), (962, .dup), (963, .iconst 0), (964, .bipush 111), (966, .castore), (967, .dup), (968, .iconst 1), (969, .bipush 114), (971, .castore), (972, .putfield 170), (975, .aload_n 0), (976, .iconst 3), (977, .newarray .char), (979, .dup), (980, .iconst 0), (981, .bipush 97), (983, .castore), (984, .dup), (985, .iconst 1), (986, .bipush 108), (988, .castore), (989, .dup), (990, .iconst 2), (991, .bipush 108), (993, .castore), (994, .putfield 173), (997, .aload_n 0), (998, .iconst 3), (999, .newarray .char), (1001, .dup), (1002, .iconst 0), (1003, .bipush 109), (1005, .castore), (1006, .dup), (1007, .iconst 1), (1008, .bipush 105), (1010, .castore), (1011, .dup), (1012, .iconst 2), (1013, .bipush 110), (1015, .castore), (1016, .putfield 176), (1019, .aload_n 0), (1020, .iconst 3), (1021, .newarray .char), (1023, .dup), (1024, .iconst 0), (1025, .bipush 109), (1027, .castore), (1028, .dup), (1029, .iconst 1), (1030, .bipush 97), (1032, .castore), (1033, .dup), (1034, .iconst 2), (1035, .bipush 120), (1037, .castore), (1038, .putfield 179), (1041, .aload_n 0), (1042, .iconst 4), (1043, .newarray .char), (1045, .dup), (1046, .iconst 0), (1047, .bipush 106), (1049, .castore), (1050, .dup), (1051, .iconst 1), (1052, .bipush 97), (1054, .castore), (1055, .dup), (1056, .iconst 2), (1057, .bipush 109), (1059, .castore), (1060, .dup), (1061, .iconst 3), (1062, .bipush 115), (1064, .castore), (1065, .putfield 182), (1068, .aload_n 0), (1069, .bipush 6), (1071, .newarray .char), (1073, .dup), (1074, .iconst 0), (1075, .bipush 110), (1077, .castore), (1078, .dup), (1079, .iconst 1), (1080, .bipush 117), (1082, .castore), (1083, .dup), (1084, .iconst 2), (1085, .bipush 109), (1087, .castore), (1088, .dup), (1089, .iconst 3), (1090, .bipush 98), (1092, .castore), (1093, .dup), (1094, .iconst 4), (1095, .bipush 101), (1097, .castore), (1098, .dup), (1099, .iconst 5), (1100, .bipush 114), (1102, .castore), (1103, .putfield 185), (1106, .aload_n 0), (1107, .iconst 5), (1108, .newarray .char), (1110, .dup), (1111, .iconst 0), (1112, .bipush 119), (1114, .castore), (1115, .dup), (1116, .iconst 1), (1117, .bipush 97), (1119, .castore), (1120, .dup), (1121, .iconst 2), (1122, .bipush 114), (1124, .castore), (1125, .dup), (1126, .iconst 3), (1127, .bipush 100), (1129, .castore), (1130, .dup), (1131, .iconst 4), (1132, .bipush 115), (1134, .castore), (1135, .putfield 188), (1138, .aload_n 0), (1139, .iconst 4), (1140, .newarray .char), (1142, .dup), (1143, .iconst 0), (1144, .bipush 119), (1146, .castore), (1147, .dup), (1148, .iconst 1), (1149, .bipush 97), (1151, .castore), (1152, .dup), (1153, .iconst 2), (1154, .bipush 114), (1156, .castore), (1157, .dup), (1158, .iconst 3), (1159, .bipush 100), (1161, .castore), (1162, .putfield 191), (1165, .aload_n 0), (1166, .iconst 5), (1167, .newarray .char), (1169, .dup), (1170, .iconst 0), (1171, .bipush 115), (1173, .castore), (1174, .dup), (1175, .iconst 1), (1176, .bipush 116), (1178, .castore), (1179, .dup), (1180, .iconst 2), (1181, .bipush 117), (1183, .castore), (1184, .dup), (1185, .iconst 3), (1186, .bipush 99), (1188, .castore), (1189, .dup), (1190, .iconst 4), (1191, .bipush 107), (1193, .castore), (1194, .putfield 194), (1197, .aload_n 0), (1198, .iconst 2), (1199, .newarray .char), (1201, .dup), (1202, .iconst 0), (1203, .bipush 97), (1205, .castore), (1206, .dup), (1207, .iconst 1), (1208, .bipush 116), (1210, .castore), (1211, .putfield 197), (1214, .aload_n 0), (1215, .iconst 5), (1216, .newarray .char), (1218, .dup), (1219, .iconst 0), (1220, .bipush 116), (1222, .castore), (1223, .dup), (1224, .iconst 1), (1225, .bipush 117), (1227, .castore), (1228, .dup), (1229, .iconst 2), (1230, .bipush 114), (1232, .castore), (1233, .dup), (1234, .iconst 3), (1235, .bipush 110), (1237, .castore), (1238, .dup), (1239, .iconst 4), (1240, .bipush 115), (1242, .castore), (1243, .putfield 200), (1246, .aload_n 0), (1247, .sipush 1700), (1250, .newarray .int), (1252, .putfield 203), (1255, .aload_n 0), (1256, .sipush 1700), (1259, .newarray .int), (1261, .putfield 206), (1264, .aload_n 0), (1265, .sipush 1700), (1268, .newarray .long), (1270, .putfield 209), (1273, .aload_n 0), (1274, .bipush 11), (1276, .newarray .int), (1278, .putfield 212), (1281, .return_)])
/-- LockOrchestraModel.feed(IIIII)I -/
def am_m182 : am_M := (12, false, 6, 8, (some .int), ⟨"LockOrchestraModel", "feed", "(IIIII)I"⟩, prog_14_method_3_code, [(0, .aload_n 0), (1, .getfield 215), (4, .bipush 20), (6, .iadd), (7, .sipush 1600), (10, .if_icmp .le 15), (13, .aload_n 0), (14, .getfield 17), (17, .iconst 0), (18, .dup2), (19, .iaload), (20, .iconst 1), (21, .iadd), (22, .iastore), (23, .iconst (-1)), (24, .ireturn), (25, .iconst 0), (26, .istore 6), (28, .iload 6), (30, .bipush 20), (32, .if_icmp .ge 92), (35, .iload 6), (37, .iconst 4), (38, .if_icmp .ge 7), (41, .iload_n 1), (42, .goto 39), (45, .iload 6), (47, .bipush 8), (49, .if_icmp .ge 7), (52, .iload_n 2), (53, .goto 28), (56, .iload 6), (58, .bipush 12), (60, .if_icmp .ge 7), (63, .iload_n 3), (64, .goto 17), (67, .iload 6), (69, .bipush 16), (71, .if_icmp .ge 8), (74, .iload 4), (76, .goto 5), (79, .iload 5), (81, .istore 7), (83, .aload_n 0), (84, .getfield 7), (87, .aload_n 0), (88, .getfield 215), (91, .iload 7), (93, .bipush 8), (95, .iconst 3), (96, .iload 6), (98, .iconst 4), (99, .irem), (100, .isub), (101, .imul), (102, .ishr), (103, .sipush 255), (106, .iand), (107, .iastore), (108, .aload_n 0), (109, .dup), (110, .getfield 215), (113, .iconst 1), (114, .iadd), (115, .putfield 215), (118, .iinc 6 1), (121, .goto (-93)), (124, .aload_n 0), (125, .getfield 215), (128, .ireturn)])
/-- LockOrchestraModel.end(I)Z -/
def am_m183 : am_M := (12, false, 2, 2, (some .boolean), ⟨"LockOrchestraModel", "end", "(I)Z"⟩, prog_14_method_4_code, [(0, .iload_n 1), (1, .ifCond .lt 11), (4, .iload_n 1), (5, .aload_n 0), (6, .getfield 215), (9, .if_icmp .le 15), (12, .aload_n 0), (13, .getfield 17), (16, .iconst 0), (17, .dup2), (18, .iaload), (19, .iconst 1), (20, .iadd), (21, .iastore), (22, .iconst 0), (23, .ireturn), (24, .aload_n 0), (25, .iload_n 1), (26, .putfield 215), (29, .iconst 1), (30, .ireturn)])
/-- LockOrchestraModel.hall()I -/
def am_m184 : am_M := (12, false, 1, 2, (some .int), ⟨"LockOrchestraModel", "hall", "()I"⟩, prog_14_method_27_code, [(0, .aload_n 0), (1, .aload_n 0), (2, .getfield 215), (5, .putfield 227), (8, .aload_n 0), (9, .iconst 0), (10, .putfield 215), (13, .aload_n 0), (14, .iconst 0), (15, .putfield 224), (18, .aload_n 0), (19, .iconst (-1)), (20, .putfield 238), (23, .aload_n 0), (24, .iconst 0), (25, .putfield 218), (28, .aload_n 0), (29, .iconst (-1)), (30, .putfield 221), (33, .aload_n 0), (34, .iconst 0), (35, .putfield 321), (38, .aload_n 0), (39, .iconst 0), (40, .putfield 318), (43, .iconst 0), (44, .istore_n 1), (45, .iload_n 1), (46, .iconst 4), (47, .if_icmp .ge 16), (50, .aload_n 0), (51, .getfield 81), (54, .iload_n 1), (55, .iconst 0), (56, .iastore), (57, .iinc 1 1), (60, .goto (-15)), (63, .aload_n 0), (64, .getfield 97), (67, .iconst 0), (68, .iconst 0), (69, .iastore), (70, .aload_n 0), (71, .getfield 218), (74, .ifCond .ne 18), (77, .aload_n 0), (78, .invokevirtual 230), (81, .iconst (-1)), (82, .if_icmp .eq 10), (85, .aload_n 0), (86, .invokevirtual 340), (89, .goto (-19)), (92, .aload_n 0), (93, .aload_n 0), (94, .getfield 218), (97, .putfield 343), (100, .aload_n 0), (101, .aload_n 0), (102, .getfield 221), (105, .putfield 13), (108, .aload_n 0), (109, .getfield 218), (112, .ifCond .eq 15), (115, .aload_n 0), (116, .getfield 17), (119, .iconst 1), (120, .dup2), (121, .iaload), (122, .iconst 1), (123, .iadd), (124, .iastore), (125, .iconst (-1)), (126, .ireturn), (127, .aload_n 0), (128, .invokevirtual 346), (131, .aload_n 0), (132, .getfield 321), (135, .ireturn)])
/-- LockOrchestraModel.look()I -/
def am_m185 : am_M := (12, false, 1, 1, (some .int), ⟨"LockOrchestraModel", "look", "()I"⟩, prog_14_method_8_code, [(0, .aload_n 0), (1, .getfield 224), (4, .aload_n 0), (5, .getfield 227), (8, .if_icmp .ge 44), (11, .aload_n 0), (12, .getfield 7), (15, .aload_n 0), (16, .getfield 224), (19, .iaload), (20, .bipush 10), (22, .if_icmp .eq 17), (25, .aload_n 0), (26, .getfield 7), (29, .aload_n 0), (30, .getfield 224), (33, .iaload), (34, .bipush 32), (36, .if_icmp .ne 16), (39, .aload_n 0), (40, .dup), (41, .getfield 224), (44, .iconst 1), (45, .iadd), (46, .putfield 224), (49, .goto (-49)), (52, .aload_n 0), (53, .getfield 224), (56, .aload_n 0), (57, .getfield 227), (60, .if_icmp .ge 15), (63, .aload_n 0), (64, .getfield 7), (67, .aload_n 0), (68, .getfield 224), (71, .iaload), (72, .goto 4), (75, .iconst (-1)), (76, .ireturn)])
/-- LockOrchestraModel.statementTold()V -/
def am_m186 : am_M := (12, false, 1, 2, none, ⟨"LockOrchestraModel", "statementTold", "()V"⟩, prog_14_method_26_code, [(0, .aload_n 0), (1, .getfield 224), (4, .istore_n 1), (5, .aload_n 0), (6, .getfield 321), (9, .bipush 60), (11, .if_icmp .ne 10), (14, .aload_n 0), (15, .iconst 5), (16, .iload_n 1), (17, .invokevirtual 248), (20, .return_), (21, .aload_n 0), (22, .aload_n 0), (23, .getfield 20), (26, .invokevirtual 245), (29, .ifCond .eq 11), (32, .aload_n 0), (33, .iload_n 1), (34, .invokevirtual 324), (37, .goto 81), (40, .aload_n 0), (41, .aload_n 0), (42, .getfield 33), (45, .invokevirtual 245), (48, .ifCond .eq 11), (51, .aload_n 0), (52, .iload_n 1), (53, .invokevirtual 328), (56, .goto 62), (59, .aload_n 0), (60, .aload_n 0), (61, .getfield 39), (64, .invokevirtual 245), (67, .ifCond .eq 11), (70, .aload_n 0), (71, .iload_n 1), (72, .invokevirtual 331), (75, .goto 43), (78, .aload_n 0), (79, .aload_n 0), (80, .getfield 45), (83, .invokevirtual 245), (86, .ifCond .eq 11), (89, .aload_n 0), (90, .iload_n 1), (91, .invokevirtual 334), (94, .goto 24), (97, .aload_n 0), (98, .aload_n 0), (99, .getfield 51), (102, .invokevirtual 292), (105, .aload_n 0), (106, .getfield 97), (109, .iconst 0), (110, .aload_n 0), (111, .iconst 0), (112, .bipush 100), (114, .invokevirtual 296), (117, .iastore), (118, .aload_n 0), (119, .bipush 59), (121, .invokevirtual 337), (124, .aload_n 0), (125, .dup), (126, .getfield 321), (129, .iconst 1), (130, .iadd), (131, .putfield 321), (134, .return_)])
/-- LockOrchestraModel.fail(II)V -/
def am_m187 : am_M := (12, false, 3, 3, none, ⟨"LockOrchestraModel", "fail", "(II)V"⟩, prog_14_method_5_code, [(0, .aload_n 0), (1, .getfield 218), (4, .ifCond .eq 4), (7, .return_), (8, .aload_n 0), (9, .iload_n 1), (10, .putfield 218), (13, .aload_n 0), (14, .iload_n 2), (15, .putfield 221), (18, .return_)])
/-- LockOrchestraModel.takes([C)Z -/
def am_m188 : am_M := (12, false, 2, 2, (some .boolean), ⟨"LockOrchestraModel", "takes", "([C)Z"⟩, prog_14_method_10_code, [(0, .aload_n 0), (1, .aload_n 1), (2, .invokevirtual 241), (5, .ifCond .ne 5), (8, .iconst 0), (9, .ireturn), (10, .aload_n 0), (11, .dup), (12, .getfield 224), (15, .aload_n 1), (16, .arraylength), (17, .iadd), (18, .putfield 224), (21, .aload_n 0), (22, .aload_n 0), (23, .getfield 224), (26, .putfield 238), (29, .iconst 1), (30, .ireturn)])
/-- LockOrchestraModel.isHere([C)Z -/
def am_m189 : am_M := (12, false, 2, 4, (some .boolean), ⟨"LockOrchestraModel", "isHere", "([C)Z"⟩, prog_14_method_9_code, [(0, .aload_n 0), (1, .getfield 218), (4, .ifCond .ne 24), (7, .aload_n 0), (8, .invokevirtual 230), (11, .invokestatic 234), (14, .ifCond .eq 14), (17, .aload_n 0), (18, .getfield 224), (21, .aload_n 0), (22, .getfield 238), (25, .if_icmp .ne 5), (28, .iconst 0), (29, .ireturn), (30, .aload_n 0), (31, .getfield 224), (34, .istore_n 2), (35, .iload_n 2), (36, .aload_n 0), (37, .getfield 227), (40, .if_icmp .ge 21), (43, .aload_n 0), (44, .getfield 7), (47, .iload_n 2), (48, .iaload), (49, .invokestatic 234), (52, .ifCond .eq 9), (55, .iinc 2 1), (58, .goto (-23)), (61, .iload_n 2), (62, .aload_n 0), (63, .getfield 224), (66, .isub), (67, .aload_n 1), (68, .arraylength), (69, .if_icmp .eq 5), (72, .iconst 0), (73, .ireturn), (74, .iconst 0), (75, .istore_n 3), (76, .iload_n 3), (77, .aload_n 1), (78, .arraylength), (79, .if_icmp .ge 28), (82, .aload_n 0), (83, .getfield 7), (86, .aload_n 0), (87, .getfield 224), (90, .iload_n 3), (91, .iadd), (92, .iaload), (93, .aload_n 1), (94, .iload_n 3), (95, .caload), (96, .if_icmp .eq 5), (99, .iconst 0), (100, .ireturn), (101, .iinc 3 1), (104, .goto (-28)), (107, .iconst 1), (108, .ireturn)])
/-- LockOrchestraModel.isLetter(I)Z -/
def am_m190 : am_M := (12, false, 1, 1, (some .boolean), ⟨"LockOrchestraModel", "isLetter", "(I)Z"⟩, prog_14_method_6_code, [(0, .iload_n 0), (1, .bipush 97), (3, .if_icmp .lt 13), (6, .iload_n 0), (7, .bipush 122), (9, .if_icmp .gt 7), (12, .iconst 1), (13, .goto 4), (16, .iconst 0), (17, .ireturn)])
/-- LockOrchestraModel.lockTold(I)V -/
def am_m191 : am_M := (12, false, 2, 8, none, ⟨"LockOrchestraModel", "lockTold", "(I)V"⟩, prog_14_method_22_code, [(0, .aload_n 0), (1, .iconst 0), (2, .iconst 4), (3, .iload_n 1), (4, .invokevirtual 285), (7, .ifCond .eq 4), (10, .return_), (11, .aload_n 0), (12, .invokevirtual 289), (15, .lstore_n 2), (16, .aload_n 0), (17, .aload_n 0), (18, .getfield 24), (21, .invokevirtual 292), (24, .aload_n 0), (25, .iconst 2), (26, .iconst 5), (27, .invokevirtual 296), (30, .istore 4), (32, .aload_n 0), (33, .aload_n 0), (34, .getfield 27), (37, .invokevirtual 292), (40, .aload_n 0), (41, .iconst 0), (42, .iload 4), (44, .iconst 1), (45, .isub), (46, .invokevirtual 296), (49, .istore 5), (51, .iconst (-1)), (52, .istore 6), (54, .aload_n 0), (55, .aload_n 0), (56, .getfield 30), (59, .invokevirtual 245), (62, .ifCond .eq 14), (65, .aload_n 0), (66, .iconst 0), (67, .iload 4), (69, .iconst 1), (70, .isub), (71, .invokevirtual 296), (74, .istore 6), (76, .aload_n 0), (77, .getfield 218), (80, .ifCond .eq 4), (83, .return_), (84, .iconst 3), (85, .aload_n 0), (86, .getfield 81), (89, .iconst 0), (90, .iaload), (91, .imul), (92, .istore 7), (94, .aload_n 0), (95, .getfield 84), (98, .aload_n 0), (99, .getfield 81), (102, .iconst 0), (103, .iaload), (104, .lload_n 2), (105, .lastore), (106, .aload_n 0), (107, .getfield 88), (110, .iload 7), (112, .iload 4), (114, .iastore), (115, .aload_n 0), (116, .getfield 88), (119, .iload 7), (121, .iconst 1), (122, .iadd), (123, .iload 5), (125, .iastore), (126, .aload_n 0), (127, .getfield 88), (130, .iload 7), (132, .iconst 2), (133, .iadd), (134, .iload 6), (136, .iastore), (137, .aload_n 0), (138, .getfield 81), (141, .iconst 0), (142, .dup2), (143, .iaload), (144, .iconst 1), (145, .iadd), (146, .iastore), (147, .return_)])
/-- LockOrchestraModel.isFull(III)Z -/
def am_m192 : am_M := (12, false, 4, 4, (some .boolean), ⟨"LockOrchestraModel", "isFull", "(III)Z"⟩, prog_14_method_18_code, [(0, .aload_n 0), (1, .getfield 218), (4, .ifCond .ne 19), (7, .aload_n 0), (8, .getfield 81), (11, .iload_n 1), (12, .iaload), (13, .iload_n 2), (14, .if_icmp .ne 9), (17, .aload_n 0), (18, .iconst 5), (19, .iload_n 3), (20, .invokevirtual 248), (23, .aload_n 0), (24, .getfield 218), (27, .ifCond .eq 7), (30, .iconst 1), (31, .goto 4), (34, .iconst 0), (35, .ireturn)])
/-- LockOrchestraModel.newName()J -/
def am_m193 : am_M := (12, false, 1, 4, (some .long), ⟨"LockOrchestraModel", "newName", "()J"⟩, prog_14_method_20_code, [(0, .aload_n 0), (1, .invokevirtual 277), (4, .lstore_n 1), (5, .iconst 0), (6, .istore_n 3), (7, .iload_n 3), (8, .iconst 4), (9, .if_icmp .ge 35), (12, .aload_n 0), (13, .getfield 218), (16, .ifCond .ne 22), (19, .aload_n 0), (20, .iload_n 3), (21, .lload_n 1), (22, .invokevirtual 281), (25, .iconst (-1)), (26, .if_icmp .eq 12), (29, .aload_n 0), (30, .iconst 3), (31, .aload_n 0), (32, .getfield 266), (35, .invokevirtual 248), (38, .iinc 3 1), (41, .goto (-34)), (44, .lload_n 1), (45, .lreturn)])
/-- LockOrchestraModel.name()J -/
def am_m194 : am_M := (12, false, 1, 3, (some .long), ⟨"LockOrchestraModel", "name", "()J"⟩, prog_14_method_16_code, [(0, .aload_n 0), (1, .getfield 218), (4, .ifCond .eq 5), (7, .lconst 0), (8, .lreturn), (9, .aload_n 0), (10, .invokevirtual 230), (13, .invokestatic 234), (16, .ifCond .eq 21), (19, .aload_n 0), (20, .getfield 224), (23, .aload_n 0), (24, .getfield 238), (27, .if_icmp .eq 10), (30, .aload_n 0), (31, .invokevirtual 262), (34, .ifCond .eq 14), (37, .aload_n 0), (38, .iconst 1), (39, .aload_n 0), (40, .getfield 224), (43, .invokevirtual 248), (46, .lconst 0), (47, .lreturn), (48, .aload_n 0), (49, .aload_n 0), (50, .getfield 224), (53, .putfield 266), (56, .lconst 0), (57, .lstore_n 1), (58, .aload_n 0), (59, .getfield 224), (62, .aload_n 0), (63, .getfield 227), (66, .if_icmp .ge 79), (69, .aload_n 0), (70, .getfield 7), (73, .aload_n 0), (74, .getfield 224), (77, .iaload), (78, .invokestatic 234), (81, .ifCond .eq 64), (84, .aload_n 0), (85, .getfield 224), (88, .aload_n 0), (89, .getfield 266), (92, .isub), (93, .bipush 6), (95, .if_icmp .ne 14), (98, .aload_n 0), (99, .iconst 1), (100, .aload_n 0), (101, .getfield 224), (104, .invokevirtual 248), (107, .lconst 0), (108, .lreturn), (109, .ldc2_w 269), (112, .lload_n 1), (113, .lmul), (114, .aload_n 0), (115, .getfield 7), (118, .aload_n 0), (119, .getfield 224), (122, .iaload), (123, .i2l), (124, .ladd), (125, .ldc2_w 271), (128, .lsub), (129, .lconst 1), (130, .ladd), (131, .lstore_n 1), (132, .aload_n 0), (133, .dup), (134, .getfield 224), (137, .iconst 1), (138, .iadd), (139, .putfield 224), (142, .goto (-84)), (145, .aload_n 0), (146, .aload_n 0), (147, .getfield 224), (150, .putfield 238), (153, .lload_n 1), (154, .lreturn)])
/-- LockOrchestraModel.isOwnHere()Z -/
def am_m195 : am_M := (12, false, 1, 2, (some .boolean), ⟨"LockOrchestraModel", "isOwnHere", "()Z"⟩, prog_14_method_15_code, [(0, .aload_n 0), (1, .aload_n 0), (2, .getfield 20), (5, .invokevirtual 241), (8, .ifCond .ne 58), (11, .aload_n 0), (12, .aload_n 0), (13, .getfield 24), (16, .invokevirtual 241), (19, .ifCond .ne 47), (22, .aload_n 0), (23, .aload_n 0), (24, .getfield 27), (27, .invokevirtual 241), (30, .ifCond .ne 36), (33, .aload_n 0), (34, .aload_n 0), (35, .getfield 30), (38, .invokevirtual 241), (41, .ifCond .ne 25), (44, .aload_n 0), (45, .aload_n 0), (46, .getfield 33), (49, .invokevirtual 241), (52, .ifCond .ne 14), (55, .aload_n 0), (56, .aload_n 0), (57, .getfield 36), (60, .invokevirtual 241), (63, .ifCond .eq 7), (66, .iconst 1), (67, .goto 4), (70, .iconst 0), (71, .istore_n 1), (72, .iload_n 1), (73, .ifCond .ne 69), (76, .aload_n 0), (77, .aload_n 0), (78, .getfield 39), (81, .invokevirtual 241), (84, .ifCond .ne 58), (87, .aload_n 0), (88, .aload_n 0), (89, .getfield 42), (92, .invokevirtual 241), (95, .ifCond .ne 47), (98, .aload_n 0), (99, .aload_n 0), (100, .getfield 45), (103, .invokevirtual 241), (106, .ifCond .ne 36), (109, .aload_n 0), (110, .aload_n 0), (111, .getfield 48), (114, .invokevirtual 241), (117, .ifCond .ne 25), (120, .aload_n 0), (121, .aload_n 0), (122, .getfield 51), (125, .invokevirtual 241), (128, .ifCond .ne 14), (131, .aload_n 0), (132, .aload_n 0), (133, .getfield 54), (136, .invokevirtual 241), (139, .ifCond .eq 7), (142, .iconst 1), (143, .goto 4), (146, .iconst 0), (147, .istore_n 1), (148, .iload_n 1), (149, .ifCond .ne 69), (152, .aload_n 0), (153, .aload_n 0), (154, .getfield 57), (157, .invokevirtual 241), (160, .ifCond .ne 58), (163, .aload_n 0), (164, .aload_n 0), (165, .getfield 60), (168, .invokevirtual 241), (171, .ifCond .ne 47), (174, .aload_n 0), (175, .aload_n 0), (176, .getfield 63), (179, .invokevirtual 241), (182, .ifCond .ne 36), (185, .aload_n 0), (186, .aload_n 0), (187, .getfield 66), (190, .invokevirtual 241), (193, .ifCond .ne 25), (196, .aload_n 0), (197, .aload_n 0), (198, .getfield 69), (201, .invokevirtual 241), (204, .ifCond .ne 14), (207, .aload_n 0), (208, .aload_n 0), (209, .getfield 72), (212, .invokevirtual 241), (215, .ifCond .eq 7), (218, .iconst 1), (219, .goto 4), (222, .iconst 0), (223, .istore_n 1), (224, .iload_n 1), (225, .ifCond .ne 25), (228, .aload_n 0), (229, .aload_n 0), (230, .getfield 75), (233, .invokevirtual 241), (236, .ifCond .ne 14), (239, .aload_n 0), (240, .aload_n 0), (241, .getfield 78), (244, .invokevirtual 241), (247, .ifCond .eq 7), (250, .iconst 1), (251, .goto 4), (254, .iconst 0), (255, .istore_n 1), (256, .iload_n 1), (257, .ireturn)])
/-- LockOrchestraModel.nameOf(IJ)I -/
def am_m196 : am_M := (12, false, 3, 5, (some .int), ⟨"LockOrchestraModel", "nameOf", "(IJ)I"⟩, prog_14_method_19_code, [(0, .iconst 0), (1, .istore 4), (3, .iload 4), (5, .aload_n 0), (6, .getfield 81), (9, .iload_n 1), (10, .iaload), (11, .if_icmp .ge 29), (14, .aload_n 0), (15, .getfield 84), (18, .bipush 6), (20, .iload_n 1), (21, .imul), (22, .iload 4), (24, .iadd), (25, .laload), (26, .lload_n 2), (27, .lcmp), (28, .ifCond .ne 6), (31, .iload 4), (33, .ireturn), (34, .iinc 4 1), (37, .goto (-34)), (40, .iconst (-1)), (41, .ireturn)])
/-- LockOrchestraModel.asks([C)V -/
def am_m197 : am_M := (12, false, 2, 2, none, ⟨"LockOrchestraModel", "asks", "([C)V"⟩, prog_14_method_11_code, [(0, .aload_n 0), (1, .getfield 218), (4, .ifCond .ne 20), (7, .aload_n 0), (8, .aload_n 1), (9, .invokevirtual 245), (12, .ifCond .ne 12), (15, .aload_n 0), (16, .iconst 1), (17, .aload_n 0), (18, .getfield 224), (21, .invokevirtual 248), (24, .return_)])
/-- LockOrchestraModel.number(II)I -/
def am_m198 : am_M := (12, false, 3, 5, (some .int), ⟨"LockOrchestraModel", "number", "(II)I"⟩, prog_14_method_14_code, [(0, .aload_n 0), (1, .getfield 218), (4, .ifCond .eq 5), (7, .iconst 0), (8, .ireturn), (9, .aload_n 0), (10, .invokevirtual 230), (13, .invokestatic 255), (16, .ifCond .eq 14), (19, .aload_n 0), (20, .getfield 224), (23, .aload_n 0), (24, .getfield 238), (27, .if_icmp .ne 14), (30, .aload_n 0), (31, .iconst 1), (32, .aload_n 0), (33, .getfield 224), (36, .invokevirtual 248), (39, .iconst 0), (40, .ireturn), (41, .aload_n 0), (42, .getfield 224), (45, .istore_n 3), (46, .iconst 0), (47, .istore 4), (49, .aload_n 0), (50, .getfield 224), (53, .aload_n 0), (54, .getfield 227), (57, .if_icmp .ge 72), (60, .aload_n 0), (61, .getfield 7), (64, .aload_n 0), (65, .getfield 224), (68, .iaload), (69, .invokestatic 255), (72, .ifCond .eq 57), (75, .aload_n 0), (76, .getfield 224), (79, .iload_n 3), (80, .isub), (81, .iconst 4), (82, .if_icmp .ne 14), (85, .aload_n 0), (86, .iconst 1), (87, .aload_n 0), (88, .getfield 224), (91, .invokevirtual 248), (94, .iconst 0), (95, .ireturn), (96, .bipush 10), (98, .iload 4), (100, .imul), (101, .aload_n 0), (102, .getfield 7), (105, .aload_n 0), (106, .getfield 224), (109, .iaload), (110, .iadd), (111, .bipush 48), (113, .isub), (114, .istore 4), (116, .aload_n 0), (117, .dup), (118, .getfield 224), (121, .iconst 1), (122, .iadd), (123, .putfield 224), (126, .goto (-77)), (129, .aload_n 0), (130, .aload_n 0), (131, .getfield 224), (134, .putfield 238), (137, .iload 4), (139, .i2l), (140, .iload_n 1), (141, .i2l), (142, .iload_n 2), (143, .i2l), (144, .invokestatic 258), (147, .ifCond .ne 9), (150, .aload_n 0), (151, .iconst 2), (152, .iload_n 3), (153, .invokevirtual 248), (156, .iload 4), (158, .ireturn)])
/-- LockOrchestraModel.isDigit(I)Z -/
def am_m199 : am_M := (12, false, 1, 1, (some .boolean), ⟨"LockOrchestraModel", "isDigit", "(I)Z"⟩, prog_14_method_7_code, [(0, .iload_n 0), (1, .bipush 48), (3, .if_icmp .lt 13), (6, .iload_n 0), (7, .bipush 57), (9, .if_icmp .gt 7), (12, .iconst 1), (13, .goto 4), (16, .iconst 0), (17, .ireturn)])
/-- LockOrchestraModel.isIn(JJJ)Z -/
def am_m200 : am_M := (12, false, 3, 6, (some .boolean), ⟨"LockOrchestraModel", "isIn", "(JJJ)Z"⟩, prog_14_method_2_code, [(0, .lload_n 0), (1, .lload_n 2), (2, .lcmp), (3, .ifCond .lt 14), (6, .lload_n 0), (7, .lload 4), (9, .lcmp), (10, .ifCond .gt 7), (13, .iconst 1), (14, .goto 4), (17, .iconst 0), (18, .ireturn)])
/-- LockOrchestraModel.noteTold(I)V -/
def am_m201 : am_M := (12, false, 2, 9, none, ⟨"LockOrchestraModel", "noteTold", "(I)V"⟩, prog_14_method_23_code, [(0, .aload_n 0), (1, .iconst 1), (2, .bipush 6), (4, .iload_n 1), (5, .invokevirtual 285), (8, .ifCond .eq 4), (11, .return_), (12, .aload_n 0), (13, .invokevirtual 289), (16, .lstore_n 2), (17, .aload_n 0), (18, .aload_n 0), (19, .getfield 36), (22, .invokevirtual 292), (25, .aload_n 0), (26, .getfield 81), (29, .iconst 1), (30, .iaload), (31, .istore 4), (33, .iconst 0), (34, .istore 5), (36, .iload 5), (38, .iconst 4), (39, .if_icmp .ge 22), (42, .aload_n 0), (43, .getfield 91), (46, .iconst 4), (47, .iload 4), (49, .imul), (50, .iload 5), (52, .iadd), (53, .iconst 0), (54, .iastore), (55, .iinc 5 1), (58, .goto (-22)), (61, .iconst 0), (62, .istore 5), (64, .iconst 1), (65, .istore 6), (67, .aload_n 0), (68, .getfield 218), (71, .ifCond .ne 68), (74, .iload 6), (76, .ifCond .eq 63), (79, .aload_n 0), (80, .iconst 0), (81, .iload 5), (83, .invokevirtual 300), (86, .istore 7), (88, .aload_n 0), (89, .iconst 1), (90, .iconst 4), (91, .invokevirtual 296), (94, .istore 8), (96, .aload_n 0), (97, .getfield 218), (100, .ifCond .eq 4), (103, .return_), (104, .iload 5), (106, .iconst 1), (107, .iload 7), (109, .ishl), (110, .ior), (111, .istore 5), (113, .aload_n 0), (114, .getfield 91), (117, .iconst 4), (118, .iload 4), (120, .imul), (121, .iload 7), (123, .iadd), (124, .iload 8), (126, .iastore), (127, .aload_n 0), (128, .invokevirtual 230), (131, .invokestatic 234), (134, .istore 6), (136, .goto (-69)), (139, .aload_n 0), (140, .getfield 218), (143, .ifCond .eq 4), (146, .return_), (147, .aload_n 0), (148, .getfield 84), (151, .bipush 6), (153, .iload 4), (155, .iadd), (156, .lload_n 2), (157, .lastore), (158, .aload_n 0), (159, .getfield 81), (162, .iconst 1), (163, .dup2), (164, .iaload), (165, .iconst 1), (166, .iadd), (167, .iastore), (168, .return_)])
/-- LockOrchestraModel.oneOf(II)I -/
def am_m202 : am_M := (12, false, 3, 6, (some .int), ⟨"LockOrchestraModel", "oneOf", "(II)I"⟩, prog_14_method_21_code, [(0, .aload_n 0), (1, .invokevirtual 277), (4, .lstore_n 3), (5, .aload_n 0), (6, .iload_n 1), (7, .lload_n 3), (8, .invokevirtual 281), (11, .istore 5), (13, .aload_n 0), (14, .getfield 218), (17, .ifCond .ne 28), (20, .iload 5), (22, .iconst (-1)), (23, .if_icmp .eq 13), (26, .iload_n 2), (27, .iload 5), (29, .ishr), (30, .iconst 1), (31, .iand), (32, .iconst 1), (33, .if_icmp .ne 12), (36, .aload_n 0), (37, .iconst 3), (38, .aload_n 0), (39, .getfield 266), (42, .invokevirtual 248), (45, .aload_n 0), (46, .getfield 218), (49, .ifCond .ne 8), (52, .iload 5), (54, .goto 4), (57, .iconst 0), (58, .ireturn)])
/-- LockOrchestraModel.doorTold(I)V -/
def am_m203 : am_M := (12, false, 2, 6, none, ⟨"LockOrchestraModel", "doorTold", "(I)V"⟩, prog_14_method_24_code, [(0, .aload_n 0), (1, .iconst 2), (2, .bipush 6), (4, .iload_n 1), (5, .invokevirtual 285), (8, .ifCond .eq 4), (11, .return_), (12, .aload_n 0), (13, .invokevirtual 289), (16, .lstore_n 2), (17, .aload_n 0), (18, .aload_n 0), (19, .getfield 42), (22, .invokevirtual 292), (25, .aload_n 0), (26, .getfield 218), (29, .ifCond .eq 4), (32, .return_), (33, .aload_n 0), (34, .iconst 1), (35, .putfield 273), (38, .aload_n 0), (39, .iconst 0), (40, .putfield 303), (43, .aload_n 0), (44, .iconst 0), (45, .putfield 306), (48, .aload_n 0), (49, .iconst 0), (50, .putfield 309), (53, .aload_n 0), (54, .iconst 0), (55, .putfield 312), (58, .aload_n 0), (59, .invokevirtual 315), (62, .aload_n 0), (63, .getfield 218), (66, .ifCond .eq 4), (69, .return_), (70, .aload_n 0), (71, .getfield 81), (74, .iconst 2), (75, .iaload), (76, .istore 4), (78, .aload_n 0), (79, .getfield 84), (82, .bipush 12), (84, .iload 4), (86, .iadd), (87, .lload_n 2), (88, .lastore), (89, .aload_n 0), (90, .getfield 100), (93, .iload 4), (95, .aload_n 0), (96, .getfield 318), (99, .iastore), (100, .iconst 0), (101, .istore 5), (103, .iload 5), (105, .aload_n 0), (106, .getfield 303), (109, .if_icmp .ge 35), (112, .aload_n 0), (113, .getfield 106), (116, .aload_n 0), (117, .getfield 318), (120, .aload_n 0), (121, .getfield 203), (124, .iload 5), (126, .iaload), (127, .iastore), (128, .aload_n 0), (129, .dup), (130, .getfield 318), (133, .iconst 1), (134, .iadd), (135, .putfield 318), (138, .iinc 5 1), (141, .goto (-38)), (144, .aload_n 0), (145, .getfield 103), (148, .iload 4), (150, .aload_n 0), (151, .getfield 318), (154, .iastore), (155, .aload_n 0), (156, .getfield 81), (159, .iconst 2), (160, .dup2), (161, .iaload), (162, .iconst 1), (163, .iadd), (164, .iastore), (165, .return_)])
/-- LockOrchestraModel.qTest()V -/
def am_m204 : am_M := (12, false, 1, 3, none, ⟨"LockOrchestraModel", "qTest", "()V"⟩, prog_14_method_110_code, [(0, .iconst 1), (1, .istore_n 1), (2, .iload_n 1), (3, .ifCond .eq 107), (6, .aload_n 0), (7, .getfield 218), (10, .ifCond .ne 100), (13, .aload_n 0), (14, .invokevirtual 230), (17, .istore_n 2), (18, .iload_n 2), (19, .bipush 91), (21, .if_icmp .ne 26), (24, .aload_n 0), (25, .bipush 25), (27, .aload_n 0), (28, .getfield 224), (31, .invokevirtual 553), (34, .aload_n 0), (35, .dup), (36, .getfield 224), (39, .iconst 1), (40, .iadd), (41, .putfield 224), (44, .goto (-42)), (47, .aload_n 0), (48, .aload_n 0), (49, .getfield 164), (52, .invokevirtual 241), (55, .ifCond .eq 24), (58, .aload_n 0), (59, .bipush 12), (61, .aload_n 0), (62, .getfield 224), (65, .invokevirtual 553), (68, .aload_n 0), (69, .aload_n 0), (70, .getfield 164), (73, .invokevirtual 292), (76, .goto (-74)), (79, .aload_n 0), (80, .invokevirtual 580), (83, .aload_n 0), (84, .invokevirtual 583), (87, .aload_n 0), (88, .getfield 218), (91, .ifCond .ne 14), (94, .aload_n 0), (95, .invokevirtual 586), (98, .ifCond .eq 7), (101, .iconst 1), (102, .goto 4), (105, .iconst 0), (106, .istore_n 1), (107, .goto (-105)), (110, .aload_n 0), (111, .getfield 218), (114, .ifCond .ne 17), (117, .aload_n 0), (118, .getfield 306), (121, .ifCond .le 10), (124, .aload_n 0), (125, .invokevirtual 541), (128, .goto (-18)), (131, .return_)])
/-- LockOrchestraModel.qOpens(II)V -/
def am_m205 : am_M := (12, false, 3, 3, none, ⟨"LockOrchestraModel", "qOpens", "(II)V"⟩, prog_14_method_94_code, [(0, .aload_n 0), (1, .getfield 218), (4, .ifCond .eq 4), (7, .return_), (8, .aload_n 0), (9, .getfield 309), (12, .bipush 6), (14, .if_icmp .ne 10), (17, .aload_n 0), (18, .iconst 4), (19, .iload_n 2), (20, .invokevirtual 248), (23, .return_), (24, .aload_n 0), (25, .dup), (26, .getfield 309), (29, .iconst 1), (30, .iadd), (31, .putfield 309), (34, .aload_n 0), (35, .getfield 206), (38, .aload_n 0), (39, .getfield 306), (42, .iload_n 1), (43, .iastore), (44, .aload_n 0), (45, .dup), (46, .getfield 306), (49, .iconst 1), (50, .iadd), (51, .putfield 306), (54, .return_)])
/-- LockOrchestraModel.qFact()V -/
def am_m206 : am_M := (12, false, 1, 2, none, ⟨"LockOrchestraModel", "qFact", "()V"⟩, prog_14_method_107_code, [(0, .aload_n 0), (1, .aload_n 0), (2, .getfield 173), (5, .invokevirtual 245), (8, .ifCond .eq 10), (11, .aload_n 0), (12, .bipush 13), (14, .invokevirtual 535), (17, .return_), (18, .aload_n 0), (19, .invokevirtual 577), (22, .aload_n 0), (23, .getfield 218), (26, .ifCond .eq 4), (29, .return_), (30, .aload_n 0), (31, .invokevirtual 230), (34, .istore_n 1), (35, .iload_n 1), (36, .bipush 60), (38, .if_icmp .eq 25), (41, .iload_n 1), (42, .bipush 62), (44, .if_icmp .eq 19), (47, .iload_n 1), (48, .bipush 61), (50, .if_icmp .eq 13), (53, .aload_n 0), (54, .iconst 1), (55, .aload_n 0), (56, .getfield 224), (59, .invokevirtual 248), (62, .return_), (63, .aload_n 0), (64, .dup), (65, .getfield 224), (68, .iconst 1), (69, .iadd), (70, .putfield 224), (73, .aload_n 0), (74, .invokevirtual 577), (77, .aload_n 0), (78, .iload_n 1), (79, .bipush 60), (81, .if_icmp .ne 8), (84, .bipush 7), (86, .goto 16), (89, .iload_n 1), (90, .bipush 62), (92, .if_icmp .ne 8), (95, .bipush 8), (97, .goto 5), (100, .bipush 9), (102, .invokevirtual 535), (105, .return_)])
/-- LockOrchestraModel.qCode(I)V -/
def am_m207 : am_M := (12, false, 2, 2, none, ⟨"LockOrchestraModel", "qCode", "(I)V"⟩, prog_14_method_93_code, [(0, .aload_n 0), (1, .getfield 203), (4, .aload_n 0), (5, .getfield 303), (8, .iload_n 1), (9, .iastore), (10, .aload_n 0), (11, .dup), (12, .getfield 303), (15, .iconst 1), (16, .iadd), (17, .putfield 303), (20, .return_)])
/-- LockOrchestraModel.qSums()V -/
def am_m208 : am_M := (12, false, 1, 3, none, ⟨"LockOrchestraModel", "qSums", "()V"⟩, prog_14_method_106_code, [(0, .aload_n 0), (1, .getfield 312), (4, .istore_n 1), (5, .aload_n 0), (6, .aload_n 0), (7, .getfield 306), (10, .putfield 312), (13, .iconst 1), (14, .istore_n 2), (15, .iload_n 2), (16, .ifCond .eq 37), (19, .aload_n 0), (20, .getfield 218), (23, .ifCond .ne 30), (26, .aload_n 0), (27, .invokevirtual 571), (30, .aload_n 0), (31, .getfield 218), (34, .ifCond .ne 14), (37, .aload_n 0), (38, .invokevirtual 574), (41, .ifCond .eq 7), (44, .iconst 1), (45, .goto 4), (48, .iconst 0), (49, .istore_n 2), (50, .goto (-35)), (53, .aload_n 0), (54, .getfield 218), (57, .ifCond .ne 21), (60, .aload_n 0), (61, .getfield 306), (64, .aload_n 0), (65, .getfield 312), (68, .if_icmp .le 10), (71, .aload_n 0), (72, .invokevirtual 541), (75, .goto (-22)), (78, .aload_n 0), (79, .iload_n 1), (80, .putfield 312), (83, .return_)])
/-- LockOrchestraModel.qPartTold()V -/
def am_m209 : am_M := (12, false, 1, 6, none, ⟨"LockOrchestraModel", "qPartTold", "()V"⟩, prog_14_method_104_code, [(0, .iconst 1), (1, .istore_n 1), (2, .iload_n 1), (3, .ifCond .eq 181), (6, .aload_n 0), (7, .getfield 218), (10, .ifCond .ne 174), (13, .aload_n 0), (14, .invokevirtual 230), (17, .istore_n 2), (18, .aload_n 0), (19, .iconst 5), (20, .bipush 7), (22, .invokevirtual 550), (25, .istore_n 3), (26, .iload_n 2), (27, .bipush 40), (29, .if_icmp .ne 26), (32, .aload_n 0), (33, .bipush 20), (35, .aload_n 0), (36, .getfield 224), (39, .invokevirtual 553), (42, .aload_n 0), (43, .dup), (44, .getfield 224), (47, .iconst 1), (48, .iadd), (49, .putfield 224), (52, .goto 129), (55, .aload_n 0), (56, .aload_n 0), (57, .getfield 176), (60, .invokevirtual 241), (63, .ifCond .ne 14), (66, .aload_n 0), (67, .aload_n 0), (68, .getfield 179), (71, .invokevirtual 241), (74, .ifCond .eq 78), (77, .aload_n 0), (78, .aload_n 0), (79, .getfield 176), (82, .invokevirtual 245), (85, .istore 4), (87, .iload 4), (89, .ifCond .ne 11), (92, .aload_n 0), (93, .aload_n 0), (94, .getfield 179), (97, .invokevirtual 292), (100, .aload_n 0), (101, .invokevirtual 230), (104, .bipush 40), (106, .if_icmp .ne 10), (109, .aload_n 0), (110, .getfield 224), (113, .goto 4), (116, .iconst (-1)), (117, .istore 5), (119, .iload 5), (121, .iconst (-1)), (122, .if_icmp .eq 21), (125, .aload_n 0), (126, .iload 4), (128, .ifCond .eq 8), (131, .bipush 21), (133, .goto 5), (136, .bipush 22), (138, .iload 5), (140, .invokevirtual 553), (143, .aload_n 0), (144, .bipush 40), (146, .invokevirtual 337), (149, .goto 32), (152, .iload_n 3), (153, .iconst (-1)), (154, .if_icmp .eq 25), (157, .aload_n 0), (158, .bipush 60), (160, .iload_n 3), (161, .iadd), (162, .iconst 5), (163, .isub), (164, .aload_n 0), (165, .getfield 224), (168, .invokevirtual 553), (171, .aload_n 0), (172, .iload_n 3), (173, .invokevirtual 556), (176, .goto 5), (179, .iconst 0), (180, .istore_n 1), (181, .goto (-179)), (184, .aload_n 0), (185, .getfield 218), (188, .ifCond .eq 4), (191, .return_), (192, .aload_n 0), (193, .iconst 0), (194, .iconst 5), (195, .invokevirtual 550), (198, .istore_n 2), (199, .iload_n 2), (200, .iconst (-1)), (201, .if_icmp .eq 8), (204, .aload_n 0), (205, .iload_n 2), (206, .invokevirtual 556), (209, .aload_n 0), (210, .iload_n 2), (211, .iconst (-1)), (212, .if_icmp .eq 10), (215, .bipush 40), (217, .iload_n 2), (218, .iadd), (219, .goto 15), (222, .sipush 1000), (225, .aload_n 0), (226, .iconst 0), (227, .sipush 9999), (230, .invokevirtual 296), (233, .iadd), (234, .invokevirtual 535), (237, .aload_n 0), (238, .invokevirtual 559), (241, .return_)])
/-- LockOrchestraModel.qWordOf(II)I -/
def am_m210 : am_M := (12, false, 3, 4, (some .int), ⟨"LockOrchestraModel", "qWordOf", "(II)I"⟩, prog_14_method_101_code, [(0, .aload_n 0), (1, .invokevirtual 544), (4, .istore_n 3), (5, .iload_n 3), (6, .iload_n 1), (7, .if_icmp .lt 20), (10, .iload_n 3), (11, .iload_n 2), (12, .if_icmp .ge 15), (15, .aload_n 0), (16, .iload_n 3), (17, .invokevirtual 547), (20, .ifCond .eq 7), (23, .iload_n 3), (24, .goto 4), (27, .iconst (-1)), (28, .ireturn)])
/-- LockOrchestraModel.qWordHere()I -/
def am_m211 : am_M := (12, false, 1, 1, (some .int), ⟨"LockOrchestraModel", "qWordHere", "()I"⟩, prog_14_method_100_code, [(0, .aload_n 0), (1, .aload_n 0), (2, .getfield 182), (5, .invokevirtual 241), (8, .ifCond .eq 5), (11, .iconst 0), (12, .ireturn), (13, .aload_n 0), (14, .aload_n 0), (15, .getfield 185), (18, .invokevirtual 241), (21, .ifCond .eq 5), (24, .iconst 1), (25, .ireturn), (26, .aload_n 0), (27, .aload_n 0), (28, .getfield 188), (31, .invokevirtual 241), (34, .ifCond .eq 5), (37, .iconst 2), (38, .ireturn), (39, .aload_n 0), (40, .aload_n 0), (41, .getfield 191), (44, .invokevirtual 241), (47, .ifCond .eq 5), (50, .iconst 3), (51, .ireturn), (52, .aload_n 0), (53, .aload_n 0), (54, .getfield 194), (57, .invokevirtual 241), (60, .ifCond .eq 5), (63, .iconst 4), (64, .ireturn), (65, .aload_n 0), (66, .aload_n 0), (67, .getfield 197), (70, .invokevirtual 241), (73, .ifCond .eq 5), (76, .iconst 5), (77, .ireturn), (78, .aload_n 0), (79, .aload_n 0), (80, .getfield 200), (83, .invokevirtual 241), (86, .ifCond .eq 6), (89, .bipush 6), (91, .ireturn), (92, .iconst (-1)), (93, .ireturn)])
/-- LockOrchestraModel.isAllowed(I)Z -/
def am_m212 : am_M := (12, false, 2, 2, (some .boolean), ⟨"LockOrchestraModel", "isAllowed", "(I)Z"⟩, prog_14_method_17_code, [(0, .aload_n 0), (1, .getfield 273), (4, .ifCond .eq 12), (7, .iload_n 1), (8, .ifCond .eq 8), (11, .iload_n 1), (12, .iconst 5), (13, .if_icmp .ne 7), (16, .iconst 1), (17, .goto 4), (20, .iconst 0), (21, .ireturn)])
/-- LockOrchestraModel.asksSign(I)V -/
def am_m213 : am_M := (12, false, 2, 2, none, ⟨"LockOrchestraModel", "asksSign", "(I)V"⟩, prog_14_method_13_code, [(0, .aload_n 0), (1, .getfield 218), (4, .ifCond .ne 20), (7, .aload_n 0), (8, .iload_n 1), (9, .invokevirtual 252), (12, .ifCond .ne 12), (15, .aload_n 0), (16, .iconst 1), (17, .aload_n 0), (18, .getfield 224), (21, .invokevirtual 248), (24, .return_)])
/-- LockOrchestraModel.takesSign(I)Z -/
def am_m214 : am_M := (12, false, 2, 2, (some .boolean), ⟨"LockOrchestraModel", "takesSign", "(I)Z"⟩, prog_14_method_12_code, [(0, .aload_n 0), (1, .getfield 218), (4, .ifCond .ne 11), (7, .aload_n 0), (8, .invokevirtual 230), (11, .iload_n 1), (12, .if_icmp .eq 5), (15, .iconst 0), (16, .ireturn), (17, .aload_n 0), (18, .dup), (19, .getfield 224), (22, .iconst 1), (23, .iadd), (24, .putfield 224), (27, .iconst 1), (28, .ireturn)])
/-- LockOrchestraModel.qAsksWord(I)V -/
def am_m215 : am_M := (12, false, 2, 2, none, ⟨"LockOrchestraModel", "qAsksWord", "(I)V"⟩, prog_14_method_102_code, [(0, .iload_n 1), (1, .tableswitch 105 0 5 #[39, 50, 61, 72, 83, 94]), (40, .aload_n 0), (41, .aload_n 0), (42, .getfield 182), (45, .invokevirtual 292), (48, .goto 66), (51, .aload_n 0), (52, .aload_n 0), (53, .getfield 185), (56, .invokevirtual 292), (59, .goto 55), (62, .aload_n 0), (63, .aload_n 0), (64, .getfield 188), (67, .invokevirtual 292), (70, .goto 44), (73, .aload_n 0), (74, .aload_n 0), (75, .getfield 191), (78, .invokevirtual 292), (81, .goto 33), (84, .aload_n 0), (85, .aload_n 0), (86, .getfield 194), (89, .invokevirtual 292), (92, .goto 22), (95, .aload_n 0), (96, .aload_n 0), (97, .getfield 197), (100, .invokevirtual 292), (103, .goto 11), (106, .aload_n 0), (107, .aload_n 0), (108, .getfield 200), (111, .invokevirtual 292), (114, .return_)])
/-- LockOrchestraModel.qEndsPart()V -/
def am_m216 : am_M := (12, false, 1, 1, none, ⟨"LockOrchestraModel", "qEndsPart", "()V"⟩, prog_14_method_103_code, [(0, .aload_n 0), (1, .getfield 218), (4, .ifCond .ne 47), (7, .aload_n 0), (8, .getfield 306), (11, .aload_n 0), (12, .getfield 312), (15, .if_icmp .le 36), (18, .aload_n 0), (19, .getfield 206), (22, .aload_n 0), (23, .getfield 306), (26, .iconst 1), (27, .isub), (28, .iaload), (29, .bipush 60), (31, .if_icmp .lt 20), (34, .aload_n 0), (35, .dup), (36, .getfield 309), (39, .iconst 1), (40, .isub), (41, .putfield 309), (44, .aload_n 0), (45, .invokevirtual 541), (48, .goto (-48)), (51, .return_)])
/-- LockOrchestraModel.qDrops()V -/
def am_m217 : am_M := (12, false, 1, 1, none, ⟨"LockOrchestraModel", "qDrops", "()V"⟩, prog_14_method_96_code, [(0, .aload_n 0), (1, .dup), (2, .getfield 306), (5, .iconst 1), (6, .isub), (7, .putfield 306), (10, .aload_n 0), (11, .aload_n 0), (12, .getfield 206), (15, .aload_n 0), (16, .getfield 306), (19, .iaload), (20, .invokevirtual 535), (23, .return_)])
/-- LockOrchestraModel.qGoesOn()Z -/
def am_m218 : am_M := (12, false, 1, 2, (some .boolean), ⟨"LockOrchestraModel", "qGoesOn", "()Z"⟩, prog_14_method_105_code, [(0, .aload_n 0), (1, .getfield 218), (4, .ifCond .ne 118), (7, .aload_n 0), (8, .invokevirtual 230), (11, .bipush 41), (13, .if_icmp .ne 109), (16, .aload_n 0), (17, .invokevirtual 562), (20, .bipush 20), (22, .if_icmp .eq 21), (25, .aload_n 0), (26, .invokevirtual 562), (29, .bipush 23), (31, .if_icmp .eq 12), (34, .aload_n 0), (35, .invokevirtual 562), (38, .bipush 24), (40, .if_icmp .ne 82), (43, .aload_n 0), (44, .dup), (45, .getfield 224), (48, .iconst 1), (49, .iadd), (50, .putfield 224), (53, .aload_n 0), (54, .invokevirtual 565), (57, .aload_n 0), (58, .dup), (59, .getfield 306), (62, .iconst 1), (63, .isub), (64, .putfield 306), (67, .aload_n 0), (68, .dup), (69, .getfield 309), (72, .iconst 1), (73, .isub), (74, .putfield 309), (77, .aload_n 0), (78, .getfield 206), (81, .aload_n 0), (82, .getfield 306), (85, .iaload), (86, .bipush 20), (88, .if_icmp .eq 27), (91, .aload_n 0), (92, .aload_n 0), (93, .getfield 206), (96, .aload_n 0), (97, .getfield 306), (100, .iaload), (101, .bipush 23), (103, .if_icmp .ne 7), (106, .iconst 5), (107, .goto 5), (110, .bipush 6), (112, .invokevirtual 535), (115, .aload_n 0), (116, .invokevirtual 559), (119, .goto (-119)), (122, .aload_n 0), (123, .bipush 42), (125, .invokevirtual 252), (128, .ifCond .ne 12), (131, .aload_n 0), (132, .bipush 47), (134, .invokevirtual 252), (137, .ifCond .eq 70), (140, .aload_n 0), (141, .getfield 7), (144, .aload_n 0), (145, .getfield 224), (148, .iconst 1), (149, .isub), (150, .iaload), (151, .bipush 42), (153, .if_icmp .ne 7), (156, .iconst 3), (157, .goto 4), (160, .iconst 4), (161, .istore_n 1), (162, .aload_n 0), (163, .iconst 3), (164, .invokevirtual 568), (167, .ifCond .ne 11), (170, .aload_n 0), (171, .iconst 4), (172, .invokevirtual 568), (175, .ifCond .eq 10), (178, .aload_n 0), (179, .invokevirtual 541), (182, .goto (-20)), (185, .aload_n 0), (186, .getfield 206), (189, .aload_n 0), (190, .getfield 306), (193, .iload_n 1), (194, .iastore), (195, .aload_n 0), (196, .dup), (197, .getfield 306), (200, .iconst 1), (201, .iadd), (202, .putfield 306), (205, .iconst 1), (206, .ireturn), (207, .aload_n 0), (208, .bipush 43), (210, .invokevirtual 252), (213, .ifCond .ne 12), (216, .aload_n 0), (217, .bipush 45), (219, .invokevirtual 252), (222, .ifCond .eq 86), (225, .aload_n 0), (226, .getfield 7), (229, .aload_n 0), (230, .getfield 224), (233, .iconst 1), (234, .isub), (235, .iaload), (236, .bipush 43), (238, .if_icmp .ne 7), (241, .iconst 1), (242, .goto 4), (245, .iconst 2), (246, .istore_n 1), (247, .aload_n 0), (248, .iconst 3), (249, .invokevirtual 568), (252, .ifCond .ne 27), (255, .aload_n 0), (256, .iconst 4), (257, .invokevirtual 568), (260, .ifCond .ne 19), (263, .aload_n 0), (264, .iconst 1), (265, .invokevirtual 568), (268, .ifCond .ne 11), (271, .aload_n 0), (272, .iconst 2), (273, .invokevirtual 568), (276, .ifCond .eq 10), (279, .aload_n 0), (280, .invokevirtual 541), (283, .goto (-36)), (286, .aload_n 0), (287, .getfield 206), (290, .aload_n 0), (291, .getfield 306), (294, .iload_n 1), (295, .iastore), (296, .aload_n 0), (297, .dup), (298, .getfield 306), (301, .iconst 1), (302, .iadd), (303, .putfield 306), (306, .iconst 1), (307, .ireturn), (308, .aload_n 0), (309, .invokevirtual 562), (312, .bipush 21), (314, .if_icmp .eq 12), (317, .aload_n 0), (318, .invokevirtual 562), (321, .bipush 22), (323, .if_icmp .ne 39), (326, .aload_n 0), (327, .bipush 44), (329, .invokevirtual 337), (332, .aload_n 0), (333, .getfield 218), (336, .ifCond .eq 5), (339, .iconst 0), (340, .ireturn), (341, .aload_n 0), (342, .invokevirtual 565), (345, .aload_n 0), (346, .getfield 206), (349, .aload_n 0), (350, .getfield 306), (353, .iconst 1), (354, .isub), (355, .dup2), (356, .iaload), (357, .iconst 2), (358, .iadd), (359, .iastore), (360, .iconst 1), (361, .ireturn), (362, .aload_n 0), (363, .invokevirtual 562), (366, .iconst (-1)), (367, .if_icmp .eq 19), (370, .aload_n 0), (371, .getfield 218), (374, .ifCond .ne 12), (377, .aload_n 0), (378, .iconst 1), (379, .aload_n 0), (380, .getfield 224), (383, .invokevirtual 248), (386, .iconst 0), (387, .ireturn)])
/-- LockOrchestraModel.qBracket()I -/
def am_m219 : am_M := (12, false, 1, 2, (some .int), ⟨"LockOrchestraModel", "qBracket", "()I"⟩, prog_14_method_98_code, [(0, .aload_n 0), (1, .getfield 306), (4, .iconst 1), (5, .isub), (6, .istore_n 1), (7, .iload_n 1), (8, .aload_n 0), (9, .getfield 312), (12, .if_icmp .lt 21), (15, .aload_n 0), (16, .getfield 206), (19, .iload_n 1), (20, .iaload), (21, .invokestatic 538), (24, .ifCond .ne 9), (27, .iinc 1 (-1)), (30, .goto (-23)), (33, .iload_n 1), (34, .aload_n 0), (35, .getfield 312), (38, .if_icmp .lt 12), (41, .aload_n 0), (42, .getfield 206), (45, .iload_n 1), (46, .iaload), (47, .goto 4), (50, .iconst (-1)), (51, .ireturn)])
/-- LockOrchestraModel.qIsBracket(I)Z -/
def am_m220 : am_M := (12, false, 1, 1, (some .boolean), ⟨"LockOrchestraModel", "qIsBracket", "(I)Z"⟩, prog_14_method_97_code, [(0, .iload_n 0), (1, .bipush 20), (3, .if_icmp .lt 13), (6, .iload_n 0), (7, .bipush 24), (9, .if_icmp .gt 7), (12, .iconst 1), (13, .goto 4), (16, .iconst 0), (17, .ireturn)])
/-- LockOrchestraModel.qDropsToBracket()V -/
def am_m221 : am_M := (12, false, 1, 1, none, ⟨"LockOrchestraModel", "qDropsToBracket", "()V"⟩, prog_14_method_99_code, [(0, .aload_n 0), (1, .getfield 306), (4, .aload_n 0), (5, .getfield 312), (8, .if_icmp .le 27), (11, .aload_n 0), (12, .getfield 206), (15, .aload_n 0), (16, .getfield 306), (19, .iconst 1), (20, .isub), (21, .iaload), (22, .invokestatic 538), (25, .ifCond .ne 10), (28, .aload_n 0), (29, .invokevirtual 541), (32, .goto (-32)), (35, .return_)])
/-- LockOrchestraModel.qIsOn(I)Z -/
def am_m222 : am_M := (12, false, 2, 2, (some .boolean), ⟨"LockOrchestraModel", "qIsOn", "(I)Z"⟩, prog_14_method_95_code, [(0, .aload_n 0), (1, .getfield 306), (4, .ifCond .le 22), (7, .aload_n 0), (8, .getfield 206), (11, .aload_n 0), (12, .getfield 306), (15, .iconst 1), (16, .isub), (17, .iaload), (18, .iload_n 1), (19, .if_icmp .ne 7), (22, .iconst 1), (23, .goto 4), (26, .iconst 0), (27, .ireturn)])
/-- LockOrchestraModel.qDropsNots()V -/
def am_m223 : am_M := (12, false, 1, 1, none, ⟨"LockOrchestraModel", "qDropsNots", "()V"⟩, prog_14_method_109_code, [(0, .aload_n 0), (1, .getfield 218), (4, .ifCond .ne 29), (7, .aload_n 0), (8, .bipush 12), (10, .invokevirtual 568), (13, .ifCond .eq 20), (16, .aload_n 0), (17, .dup), (18, .getfield 309), (21, .iconst 1), (22, .isub), (23, .putfield 309), (26, .aload_n 0), (27, .invokevirtual 541), (30, .goto (-30)), (33, .return_)])
/-- LockOrchestraModel.qGoesOnTest()Z -/
def am_m224 : am_M := (12, false, 1, 1, (some .boolean), ⟨"LockOrchestraModel", "qGoesOnTest", "()Z"⟩, prog_14_method_111_code, [(0, .aload_n 0), (1, .getfield 218), (4, .ifCond .ne 72), (7, .aload_n 0), (8, .invokevirtual 230), (11, .bipush 93), (13, .if_icmp .ne 63), (16, .aload_n 0), (17, .invokevirtual 589), (20, .ifCond .eq 56), (23, .aload_n 0), (24, .dup), (25, .getfield 224), (28, .iconst 1), (29, .iadd), (30, .putfield 224), (33, .aload_n 0), (34, .bipush 25), (36, .invokevirtual 568), (39, .ifCond .ne 10), (42, .aload_n 0), (43, .invokevirtual 541), (46, .goto (-13)), (49, .aload_n 0), (50, .dup), (51, .getfield 306), (54, .iconst 1), (55, .isub), (56, .putfield 306), (59, .aload_n 0), (60, .dup), (61, .getfield 309), (64, .iconst 1), (65, .isub), (66, .putfield 309), (69, .aload_n 0), (70, .invokevirtual 583), (73, .goto (-73)), (76, .aload_n 0), (77, .aload_n 0), (78, .getfield 167), (81, .invokevirtual 245), (84, .ifCond .eq 42), (87, .aload_n 0), (88, .bipush 10), (90, .invokevirtual 568), (93, .ifCond .eq 10), (96, .aload_n 0), (97, .invokevirtual 541), (100, .goto (-13)), (103, .aload_n 0), (104, .getfield 206), (107, .aload_n 0), (108, .getfield 306), (111, .bipush 10), (113, .iastore), (114, .aload_n 0), (115, .dup), (116, .getfield 306), (119, .iconst 1), (120, .iadd), (121, .putfield 306), (124, .iconst 1), (125, .ireturn), (126, .aload_n 0), (127, .aload_n 0), (128, .getfield 170), (131, .invokevirtual 245), (134, .ifCond .eq 51), (137, .aload_n 0), (138, .bipush 10), (140, .invokevirtual 568), (143, .ifCond .ne 12), (146, .aload_n 0), (147, .bipush 11), (149, .invokevirtual 568), (152, .ifCond .eq 10), (155, .aload_n 0), (156, .invokevirtual 541), (159, .goto (-22)), (162, .aload_n 0), (163, .getfield 206), (166, .aload_n 0), (167, .getfield 306), (170, .bipush 11), (172, .iastore), (173, .aload_n 0), (174, .dup), (175, .getfield 306), (178, .iconst 1), (179, .iadd), (180, .putfield 306), (183, .iconst 1), (184, .ireturn), (185, .aload_n 0), (186, .getfield 218), (189, .ifCond .ne 19), (192, .aload_n 0), (193, .invokevirtual 589), (196, .ifCond .eq 12), (199, .aload_n 0), (200, .iconst 1), (201, .aload_n 0), (202, .getfield 224), (205, .invokevirtual 248), (208, .iconst 0), (209, .ireturn)])
/-- LockOrchestraModel.qHasSquare()Z -/
def am_m225 : am_M := (12, false, 1, 2, (some .boolean), ⟨"LockOrchestraModel", "qHasSquare", "()Z"⟩, prog_14_method_108_code, [(0, .iconst 0), (1, .istore_n 1), (2, .iload_n 1), (3, .aload_n 0), (4, .getfield 306), (7, .if_icmp .ge 22), (10, .aload_n 0), (11, .getfield 206), (14, .iload_n 1), (15, .iaload), (16, .bipush 25), (18, .if_icmp .ne 5), (21, .iconst 1), (22, .ireturn), (23, .iinc 1 1), (26, .goto (-24)), (29, .iconst 0), (30, .ireturn)])
/-- LockOrchestraModel.playerTold(I)V -/
def am_m226 : am_M := (12, false, 2, 7, none, ⟨"LockOrchestraModel", "playerTold", "(I)V"⟩, prog_14_method_25_code, [(0, .aload_n 0), (1, .iconst 3), (2, .iconst 5), (3, .iload_n 1), (4, .invokevirtual 285), (7, .ifCond .eq 4), (10, .return_), (11, .aload_n 0), (12, .invokevirtual 289), (15, .lstore_n 2), (16, .aload_n 0), (17, .aload_n 0), (18, .getfield 48), (21, .invokevirtual 292), (24, .iconst 0), (25, .istore 4), (27, .iconst 1), (28, .istore 5), (30, .aload_n 0), (31, .getfield 218), (34, .ifCond .ne 46), (37, .iload 5), (39, .ifCond .eq 41), (42, .aload_n 0), (43, .iconst 1), (44, .iload 4), (46, .invokevirtual 300), (49, .istore 6), (51, .aload_n 0), (52, .getfield 218), (55, .ifCond .eq 4), (58, .return_), (59, .iload 4), (61, .iconst 1), (62, .iload 6), (64, .ishl), (65, .ior), (66, .istore 4), (68, .aload_n 0), (69, .invokevirtual 230), (72, .invokestatic 234), (75, .istore 5), (77, .goto (-47)), (80, .aload_n 0), (81, .getfield 218), (84, .ifCond .eq 4), (87, .return_), (88, .aload_n 0), (89, .getfield 84), (92, .bipush 18), (94, .aload_n 0), (95, .getfield 81), (98, .iconst 3), (99, .iaload), (100, .iadd), (101, .lload_n 2), (102, .lastore), (103, .aload_n 0), (104, .getfield 94), (107, .aload_n 0), (108, .getfield 81), (111, .iconst 3), (112, .iaload), (113, .iload 4), (115, .iastore), (116, .aload_n 0), (117, .getfield 81), (120, .iconst 3), (121, .dup2), (122, .iaload), (123, .iconst 1), (124, .iadd), (125, .iastore), (126, .return_)])
/-- LockOrchestraModel.stands()V -/
def am_m227 : am_M := (12, false, 1, 2, none, ⟨"LockOrchestraModel", "stands", "()V"⟩, prog_14_method_28_code, [(0, .iconst 0), (1, .istore_n 1), (2, .iload_n 1), (3, .iconst 4), (4, .if_icmp .ge 23), (7, .aload_n 0), (8, .getfield 81), (11, .iconst 4), (12, .iload_n 1), (13, .iadd), (14, .aload_n 0), (15, .getfield 81), (18, .iload_n 1), (19, .iaload), (20, .iastore), (21, .iinc 1 1), (24, .goto (-22)), (27, .iconst 0), (28, .istore_n 1), (29, .iload_n 1), (30, .bipush 24), (32, .if_icmp .ge 24), (35, .aload_n 0), (36, .getfield 84), (39, .bipush 24), (41, .iload_n 1), (42, .iadd), (43, .aload_n 0), (44, .getfield 84), (47, .iload_n 1), (48, .laload), (49, .lastore), (50, .iinc 1 1), (53, .goto (-24)), (56, .iconst 0), (57, .istore_n 1), (58, .iload_n 1), (59, .bipush 12), (61, .if_icmp .ge 24), (64, .aload_n 0), (65, .getfield 88), (68, .bipush 12), (70, .iload_n 1), (71, .iadd), (72, .aload_n 0), (73, .getfield 88), (76, .iload_n 1), (77, .iaload), (78, .iastore), (79, .iinc 1 1), (82, .goto (-24)), (85, .iconst 0), (86, .istore_n 1), (87, .iload_n 1), (88, .bipush 24), (90, .if_icmp .ge 24), (93, .aload_n 0), (94, .getfield 91), (97, .bipush 24), (99, .iload_n 1), (100, .iadd), (101, .aload_n 0), (102, .getfield 91), (105, .iload_n 1), (106, .iaload), (107, .iastore), (108, .iinc 1 1), (111, .goto (-24)), (114, .iconst 0), (115, .istore_n 1), (116, .iload_n 1), (117, .iconst 5), (118, .if_icmp .ge 23), (121, .aload_n 0), (122, .getfield 94), (125, .iconst 5), (126, .iload_n 1), (127, .iadd), (128, .aload_n 0), (129, .getfield 94), (132, .iload_n 1), (133, .iaload), (134, .iastore), (135, .iinc 1 1), (138, .goto (-22)), (141, .aload_n 0), (142, .getfield 97), (145, .iconst 1), (146, .aload_n 0), (147, .getfield 97), (150, .iconst 0), (151, .iaload), (152, .iastore), (153, .iconst 0), (154, .istore_n 1), (155, .iload_n 1), (156, .bipush 6), (158, .if_icmp .ge 39), (161, .aload_n 0), (162, .getfield 100), (165, .bipush 6), (167, .iload_n 1), (168, .iadd), (169, .aload_n 0), (170, .getfield 100), (173, .iload_n 1), (174, .iaload), (175, .iastore), (176, .aload_n 0), (177, .getfield 103), (180, .bipush 6), (182, .iload_n 1), (183, .iadd), (184, .aload_n 0), (185, .getfield 103), (188, .iload_n 1), (189, .iaload), (190, .iastore), (191, .iinc 1 1), (194, .goto (-39)), (197, .iconst 0), (198, .istore_n 1), (199, .iload_n 1), (200, .aload_n 0), (201, .getfield 318), (204, .if_icmp .ge 25), (207, .aload_n 0), (208, .getfield 106), (211, .sipush 1600), (214, .iload_n 1), (215, .iadd), (216, .aload_n 0), (217, .getfield 106), (220, .iload_n 1), (221, .iaload), (222, .iastore), (223, .iinc 1 1), (226, .goto (-27)), (229, .iconst 0), (230, .istore_n 1), (231, .iload_n 1), (232, .bipush 127), (234, .if_icmp .ge 16), (237, .aload_n 0), (238, .getfield 109), (241, .iload_n 1), (242, .iconst 0), (243, .iastore), (244, .iinc 1 1), (247, .goto (-16)), (250, .iconst 0), (251, .istore_n 1), (252, .iload_n 1), (253, .aload_n 0), (254, .getfield 81), (257, .iconst 0), (258, .iaload), (259, .if_icmp .ge 27), (262, .aload_n 0), (263, .getfield 109), (266, .iconst 1), (267, .iload_n 1), (268, .iadd), (269, .aload_n 0), (270, .getfield 88), (273, .iconst 3), (274, .iload_n 1), (275, .imul), (276, .iconst 1), (277, .iadd), (278, .iaload), (279, .iastore), (280, .iinc 1 1), (283, .goto (-31)), (286, .aload_n 0), (287, .iconst 0), (288, .putfield 349), (291, .aload_n 0), (292, .iconst 0), (293, .putfield 352), (296, .aload_n 0), (297, .iconst 0), (298, .putfield 355), (301, .aload_n 0), (302, .iconst (-1)), (303, .putfield 130), (306, .aload_n 0), (307, .iconst (-1)), (308, .putfield 133), (311, .return_)])
/-- LockOrchestraModel.fault(I)I -/
def am_m228 : am_M := (12, false, 2, 2, (some .int), ⟨"LockOrchestraModel", "fault", "(I)I"⟩, prog_14_method_29_code, [(0, .iload_n 1), (1, .ifCond .ne 10), (4, .aload_n 0), (5, .getfield 343), (8, .goto 16), (11, .iload_n 1), (12, .iconst 1), (13, .if_icmp .ne 10), (16, .aload_n 0), (17, .getfield 13), (20, .goto 4), (23, .iconst (-1)), (24, .ireturn)])
/-- LockOrchestraModel.has(I)I -/
def am_m229 : am_M := (12, false, 2, 2, (some .int), ⟨"LockOrchestraModel", "has", "(I)I"⟩, prog_14_method_49_code, [(0, .iload_n 1), (1, .tableswitch 110 0 10 #[59, 59, 59, 59, 68, 75, 82, 87, 92, 100, 105]), (60, .aload_n 0), (61, .getfield 81), (64, .iconst 4), (65, .iload_n 1), (66, .iadd), (67, .iaload), (68, .ireturn), (69, .aload_n 0), (70, .getfield 97), (73, .iconst 1), (74, .iaload), (75, .ireturn), (76, .aload_n 0), (77, .getfield 109), (80, .iconst 0), (81, .iaload), (82, .ireturn), (83, .aload_n 0), (84, .invokevirtual 358), (87, .ireturn), (88, .aload_n 0), (89, .invokevirtual 408), (92, .ireturn), (93, .aload_n 0), (94, .getfield 109), (97, .bipush 6), (99, .iaload), (100, .ireturn), (101, .aload_n 0), (102, .getfield 352), (105, .ireturn), (106, .aload_n 0), (107, .getfield 349), (110, .ireturn), (111, .iconst (-1)), (112, .ireturn)])
/-- LockOrchestraModel.jammedNow()I -/
def am_m230 : am_M := (12, false, 1, 1, (some .int), ⟨"LockOrchestraModel", "jammedNow", "()I"⟩, prog_14_method_36_code, [(0, .aload_n 0), (1, .getfield 109), (4, .iconst 5), (5, .iaload), (6, .ireturn)])
/-- LockOrchestraModel.openNow()I -/
def am_m231 : am_M := (12, false, 1, 3, (some .int), ⟨"LockOrchestraModel", "openNow", "()I"⟩, prog_14_method_41_code, [(0, .iconst 0), (1, .istore_n 1), (2, .iconst 0), (3, .istore_n 2), (4, .iload_n 2), (5, .aload_n 0), (6, .invokevirtual 383), (9, .if_icmp .ge 23), (12, .aload_n 0), (13, .iload_n 2), (14, .invokevirtual 386), (17, .ifCond .eq 9), (20, .iload_n 1), (21, .iconst 1), (22, .iload_n 2), (23, .ishl), (24, .ior), (25, .istore_n 1), (26, .iinc 2 1), (29, .goto (-25)), (32, .iload_n 1), (33, .ireturn)])
/-- LockOrchestraModel.doorMany()I -/
def am_m232 : am_M := (12, false, 1, 1, (some .int), ⟨"LockOrchestraModel", "doorMany", "()I"⟩, prog_14_method_32_code, [(0, .aload_n 0), (1, .getfield 81), (4, .bipush 6), (6, .iaload), (7, .ireturn)])
/-- LockOrchestraModel.isOpen(I)Z -/
def am_m233 : am_M := (12, false, 2, 4, (some .boolean), ⟨"LockOrchestraModel", "isOpen", "(I)Z"⟩, prog_14_method_40_code, [(0, .aload_n 0), (1, .iconst 0), (2, .putfield 361), (5, .aload_n 0), (6, .getfield 100), (9, .bipush 6), (11, .iload_n 1), (12, .iadd), (13, .iaload), (14, .istore_n 2), (15, .iload_n 2), (16, .aload_n 0), (17, .getfield 103), (20, .bipush 6), (22, .iload_n 1), (23, .iadd), (24, .iaload), (25, .if_icmp .ge 157), (28, .aload_n 0), (29, .getfield 106), (32, .sipush 1600), (35, .iload_n 2), (36, .iadd), (37, .iaload), (38, .istore_n 3), (39, .iload_n 3), (40, .sipush 1000), (43, .if_icmp .lt 16), (46, .aload_n 0), (47, .iload_n 3), (48, .sipush 1000), (51, .isub), (52, .i2l), (53, .invokevirtual 364), (56, .goto 120), (59, .iload_n 3), (60, .bipush 60), (62, .if_icmp .lt 40), (65, .aload_n 0), (66, .getfield 209), (69, .aload_n 0), (70, .getfield 361), (73, .iconst 1), (74, .isub), (75, .aload_n 0), (76, .iload_n 3), (77, .bipush 60), (79, .isub), (80, .aload_n 0), (81, .getfield 209), (84, .aload_n 0), (85, .getfield 361), (88, .iconst 1), (89, .isub), (90, .laload), (91, .iconst 0), (92, .invokevirtual 368), (95, .invokestatic 372), (98, .lastore), (99, .goto 77), (102, .iload_n 3), (103, .bipush 40), (105, .if_icmp .lt 19), (108, .aload_n 0), (109, .aload_n 0), (110, .iload_n 3), (111, .bipush 40), (113, .isub), (114, .iconst 0), (115, .invokevirtual 376), (118, .invokevirtual 364), (121, .goto 55), (124, .iload_n 3), (125, .bipush 13), (127, .if_icmp .ne 11), (130, .aload_n 0), (131, .lconst 1), (132, .invokevirtual 364), (135, .goto 41), (138, .iload_n 3), (139, .bipush 12), (141, .if_icmp .ne 30), (144, .aload_n 0), (145, .getfield 209), (148, .aload_n 0), (149, .getfield 361), (152, .iconst 1), (153, .isub), (154, .lconst 1), (155, .aload_n 0), (156, .getfield 209), (159, .aload_n 0), (160, .getfield 361), (163, .iconst 1), (164, .isub), (165, .laload), (166, .lsub), (167, .lastore), (168, .goto 8), (171, .aload_n 0), (172, .iload_n 3), (173, .invokevirtual 380), (176, .iinc 2 1), (179, .goto (-164)), (182, .aload_n 0), (183, .getfield 209), (186, .iconst 0), (187, .laload), (188, .lconst 1), (189, .lcmp), (190, .ifCond .ne 7), (193, .iconst 1), (194, .goto 4), (197, .iconst 0), (198, .ireturn)])
/-- LockOrchestraModel.qPuts(J)V -/
def am_m234 : am_M := (12, false, 2, 3, none, ⟨"LockOrchestraModel", "qPuts", "(J)V"⟩, prog_14_method_114_code, [(0, .aload_n 0), (1, .getfield 209), (4, .aload_n 0), (5, .getfield 361), (8, .lload_n 1), (9, .lastore), (10, .aload_n 0), (11, .dup), (12, .getfield 361), (15, .iconst 1), (16, .iadd), (17, .putfield 361), (20, .return_)])
/-- LockOrchestraModel.qOf(IJI)J -/
def am_m235 : am_M := (12, false, 4, 5, (some .long), ⟨"LockOrchestraModel", "qOf", "(IJI)J"⟩, prog_14_method_117_code, [(0, .iload_n 1), (1, .lookupswitch 48 #[(0, 19)]), (20, .lload_n 2), (21, .lconst 0), (22, .aload_n 0), (23, .invokevirtual 389), (26, .iconst 1), (27, .isub), (28, .i2l), (29, .invokestatic 258), (32, .ifCond .eq 13), (35, .aload_n 0), (36, .lload_n 2), (37, .l2i), (38, .invokevirtual 398), (41, .i2l), (42, .goto 6), (45, .ldc2_w 600), (48, .lreturn), (49, .lload_n 2), (50, .lconst 0), (51, .aload_n 0), (52, .invokevirtual 405), (55, .iconst 1), (56, .isub), (57, .i2l), (58, .invokestatic 258), (61, .ifCond .eq 15), (64, .aload_n 0), (65, .lload_n 2), (66, .l2i), (67, .iload 4), (69, .invokevirtual 392), (72, .i2l), (73, .goto 4), (76, .lconst 0), (77, .lreturn)])
/-- LockOrchestraModel.lockMany()I -/
def am_m236 : am_M := (12, false, 1, 1, (some .int), ⟨"LockOrchestraModel", "lockMany", "()I"⟩, prog_14_method_30_code, [(0, .aload_n 0), (1, .getfield 81), (4, .iconst 4), (5, .iaload), (6, .ireturn)])
/-- LockOrchestraModel.wardNow(I)I -/
def am_m237 : am_M := (12, false, 2, 2, (some .int), ⟨"LockOrchestraModel", "wardNow", "(I)I"⟩, prog_14_method_35_code, [(0, .aload_n 0), (1, .getfield 109), (4, .iconst 1), (5, .iload_n 1), (6, .iadd), (7, .iaload), (8, .ireturn)])
/-- LockOrchestraModel.noteMany()I -/
def am_m238 : am_M := (12, false, 1, 1, (some .int), ⟨"LockOrchestraModel", "noteMany", "()I"⟩, prog_14_method_31_code, [(0, .aload_n 0), (1, .getfield 81), (4, .iconst 5), (5, .iaload), (6, .ireturn)])
/-- LockOrchestraModel.turnOf(II)I -/
def am_m239 : am_M := (12, false, 3, 3, (some .int), ⟨"LockOrchestraModel", "turnOf", "(II)I"⟩, prog_14_method_38_code, [(0, .aload_n 0), (1, .getfield 91), (4, .bipush 24), (6, .iconst 4), (7, .iload_n 1), (8, .imul), (9, .iadd), (10, .iload_n 2), (11, .iadd), (12, .iaload), (13, .ireturn)])
/-- LockOrchestraModel.qClip(J)J -/
def am_m240 : am_M := (12, false, 1, 2, (some .long), ⟨"LockOrchestraModel", "qClip", "(J)J"⟩, prog_14_method_112_code, [(0, .lload_n 0), (1, .ldc2_w 592), (4, .lcmp), (5, .ifCond .le 9), (8, .ldc2_w 592), (11, .goto 18), (14, .lload_n 0), (15, .ldc2_w 594), (18, .lcmp), (19, .ifCond .ge 9), (22, .ldc2_w 594), (25, .goto 4), (28, .lload_n 0), (29, .lreturn)])
/-- LockOrchestraModel.qPartOf(II)J -/
def am_m241 : am_M := (12, false, 3, 3, (some .long), ⟨"LockOrchestraModel", "qPartOf", "(II)J"⟩, prog_14_method_116_code, [(0, .iload_n 1), (1, .tableswitch 57 0 3 #[31, 40, 43, 50]), (32, .aload_n 0), (33, .invokevirtual 358), (36, .invokestatic 454), (39, .i2l), (40, .lreturn), (41, .iload_n 2), (42, .i2l), (43, .lreturn), (44, .aload_n 0), (45, .iload_n 2), (46, .invokevirtual 402), (49, .i2l), (50, .lreturn), (51, .aload_n 0), (52, .iload_n 2), (53, .invokevirtual 398), (56, .i2l), (57, .lreturn), (58, .aload_n 0), (59, .iload_n 2), (60, .invokevirtual 395), (63, .ifCond .eq 7), (66, .lconst 1), (67, .goto 4), (70, .lconst 0), (71, .lreturn)])
/-- LockOrchestraModel.bits(I)I -/
def am_m242 : am_M := (12, false, 1, 3, (some .int), ⟨"LockOrchestraModel", "bits", "(I)I"⟩, prog_14_method_39_code, [(0, .iconst 0), (1, .istore_n 1), (2, .iload_n 0), (3, .istore_n 2), (4, .iload_n 2), (5, .ifCond .eq 15), (8, .iinc 1 1), (11, .iload_n 2), (12, .iload_n 2), (13, .iconst 1), (14, .isub), (15, .iand), (16, .istore_n 2), (17, .goto (-13)), (20, .iload_n 1), (21, .ireturn)])
/-- LockOrchestraModel.wardsOf(I)I -/
def am_m243 : am_M := (12, false, 2, 2, (some .int), ⟨"LockOrchestraModel", "wardsOf", "(I)I"⟩, prog_14_method_34_code, [(0, .aload_n 0), (1, .getfield 88), (4, .bipush 12), (6, .iconst 3), (7, .iload_n 1), (8, .imul), (9, .iadd), (10, .iaload), (11, .ireturn)])
/-- LockOrchestraModel.isJammed(I)Z -/
def am_m244 : am_M := (12, false, 2, 2, (some .boolean), ⟨"LockOrchestraModel", "isJammed", "(I)Z"⟩, prog_14_method_37_code, [(0, .aload_n 0), (1, .invokevirtual 358), (4, .iload_n 1), (5, .ishr), (6, .iconst 1), (7, .iand), (8, .iconst 1), (9, .if_icmp .ne 7), (12, .iconst 1), (13, .goto 4), (16, .iconst 0), (17, .ireturn)])
/-- LockOrchestraModel.qJoins(I)V -/
def am_m245 : am_M := (12, false, 2, 6, none, ⟨"LockOrchestraModel", "qJoins", "(I)V"⟩, prog_14_method_115_code, [(0, .aload_n 0), (1, .getfield 209), (4, .aload_n 0), (5, .getfield 361), (8, .iconst 1), (9, .isub), (10, .laload), (11, .lstore_n 2), (12, .aload_n 0), (13, .getfield 209), (16, .aload_n 0), (17, .getfield 361), (20, .iconst 2), (21, .isub), (22, .laload), (23, .lstore 4), (25, .aload_n 0), (26, .dup), (27, .getfield 361), (30, .iconst 2), (31, .isub), (32, .putfield 361), (35, .iload_n 1), (36, .tableswitch 219 1 10 #[56, 70, 84, 98, 111, 131, 151, 170, 189, 208]), (92, .aload_n 0), (93, .lload 4), (95, .lload_n 2), (96, .ladd), (97, .invokestatic 372), (100, .invokevirtual 364), (103, .goto 170), (106, .aload_n 0), (107, .lload 4), (109, .lload_n 2), (110, .lsub), (111, .invokestatic 372), (114, .invokevirtual 364), (117, .goto 156), (120, .aload_n 0), (121, .lload 4), (123, .lload_n 2), (124, .lmul), (125, .invokestatic 372), (128, .invokevirtual 364), (131, .goto 142), (134, .aload_n 0), (135, .lload 4), (137, .lload_n 2), (138, .invokestatic 596), (141, .invokevirtual 364), (144, .goto 129), (147, .aload_n 0), (148, .lload 4), (150, .lload_n 2), (151, .lcmp), (152, .ifCond .ge 8), (155, .lload 4), (157, .goto 4), (160, .lload_n 2), (161, .invokevirtual 364), (164, .goto 109), (167, .aload_n 0), (168, .lload 4), (170, .lload_n 2), (171, .lcmp), (172, .ifCond .le 8), (175, .lload 4), (177, .goto 4), (180, .lload_n 2), (181, .invokevirtual 364), (184, .goto 89), (187, .aload_n 0), (188, .lload 4), (190, .lload_n 2), (191, .lcmp), (192, .ifCond .ge 7), (195, .lconst 1), (196, .goto 4), (199, .lconst 0), (200, .invokevirtual 364), (203, .goto 70), (206, .aload_n 0), (207, .lload 4), (209, .lload_n 2), (210, .lcmp), (211, .ifCond .le 7), (214, .lconst 1), (215, .goto 4), (218, .lconst 0), (219, .invokevirtual 364), (222, .goto 51), (225, .aload_n 0), (226, .lload 4), (228, .lload_n 2), (229, .lcmp), (230, .ifCond .ne 7), (233, .lconst 1), (234, .goto 4), (237, .lconst 0), (238, .invokevirtual 364), (241, .goto 32), (244, .aload_n 0), (245, .lload 4), (247, .lload_n 2), (248, .lmul), (249, .invokevirtual 364), (252, .goto 21), (255, .aload_n 0), (256, .lload 4), (258, .lload_n 2), (259, .ladd), (260, .lconst 0), (261, .lcmp), (262, .ifCond .le 7), (265, .lconst 1), (266, .goto 4), (269, .lconst 0), (270, .invokevirtual 364), (273, .return_)])
/-- LockOrchestraModel.qFloor(JJ)J -/
def am_m246 : am_M := (12, false, 2, 6, (some .long), ⟨"LockOrchestraModel", "qFloor", "(JJ)J"⟩, prog_14_method_113_code, [(0, .lload_n 2), (1, .lconst 0), (2, .lcmp), (3, .ifCond .ne 5), (6, .lconst 0), (7, .lreturn), (8, .lload_n 0), (9, .lload_n 2), (10, .ldiv), (11, .lstore 4), (13, .lload_n 0), (14, .lload_n 2), (15, .lrem), (16, .lconst 0), (17, .lcmp), (18, .ifCond .eq 35), (21, .lload_n 0), (22, .lconst 0), (23, .lcmp), (24, .ifCond .ge 7), (27, .iconst 1), (28, .goto 4), (31, .iconst 0), (32, .lload_n 2), (33, .lconst 0), (34, .lcmp), (35, .ifCond .ge 7), (38, .iconst 1), (39, .goto 4), (42, .iconst 0), (43, .if_icmp .eq 10), (46, .lload 4), (48, .lconst 1), (49, .lsub), (50, .goto 5), (53, .lload 4), (55, .lreturn)])
/-- LockOrchestraModel.letter(III)I -/
def am_m247 : am_M := (12, false, 4, 9, (some .int), ⟨"LockOrchestraModel", "letter", "(III)I"⟩, prog_14_method_50_code, [(0, .iload_n 1), (1, .i2l), (2, .lconst 0), (3, .ldc2_w 411), (6, .invokestatic 258), (9, .ifCond .eq 35), (12, .iload_n 2), (13, .i2l), (14, .lconst 0), (15, .aload_n 0), (16, .getfield 81), (19, .iconst 4), (20, .iload_n 1), (21, .iadd), (22, .iaload), (23, .iconst 1), (24, .isub), (25, .i2l), (26, .invokestatic 258), (29, .ifCond .eq 15), (32, .iload_n 3), (33, .i2l), (34, .lconst 0), (35, .ldc2_w 413), (38, .invokestatic 258), (41, .ifCond .ne 5), (44, .iconst (-1)), (45, .ireturn), (46, .aload_n 0), (47, .getfield 84), (50, .bipush 24), (52, .bipush 6), (54, .iload_n 1), (55, .imul), (56, .iadd), (57, .iload_n 2), (58, .iadd), (59, .laload), (60, .lstore 4), (62, .iconst 0), (63, .istore 6), (65, .lload 4), (67, .lstore 7), (69, .lload 7), (71, .lconst 0), (72, .lcmp), (73, .ifCond .le 17), (76, .iinc 6 1), (79, .lload 7), (81, .ldc2_w 269), (84, .ldiv), (85, .lstore 7), (87, .goto (-18)), (90, .iload_n 3), (91, .iload 6), (93, .if_icmp .lt 5), (96, .iconst 0), (97, .ireturn), (98, .iload 6), (100, .iconst 1), (101, .isub), (102, .istore 7), (104, .iload 7), (106, .iload_n 3), (107, .if_icmp .le 17), (110, .lload 4), (112, .ldc2_w 269), (115, .ldiv), (116, .lstore 4), (118, .iinc 7 (-1)), (121, .goto (-17)), (124, .lload 4), (126, .ldc2_w 269), (129, .lrem), (130, .l2i), (131, .ireturn)])
/-- LockOrchestraModel.lock(II)I -/
def am_m248 : am_M := (12, false, 3, 3, (some .int), ⟨"LockOrchestraModel", "lock", "(II)I"⟩, prog_14_method_51_code, [(0, .aload_n 0), (1, .iload_n 1), (2, .invokevirtual 415), (5, .ifCond .ne 5), (8, .iconst (-1)), (9, .ireturn), (10, .iload_n 2), (11, .tableswitch 73 0 4 #[33, 39, 45, 45, 59]), (44, .aload_n 0), (45, .iload_n 1), (46, .invokevirtual 402), (49, .ireturn), (50, .aload_n 0), (51, .iload_n 1), (52, .invokevirtual 398), (55, .ireturn), (56, .aload_n 0), (57, .getfield 88), (60, .bipush 11), (62, .iconst 3), (63, .iload_n 1), (64, .imul), (65, .iadd), (66, .iload_n 2), (67, .iadd), (68, .iaload), (69, .ireturn), (70, .aload_n 0), (71, .iload_n 1), (72, .invokevirtual 395), (75, .ifCond .eq 7), (78, .iconst 1), (79, .goto 4), (82, .iconst 0), (83, .ireturn), (84, .iconst (-1)), (85, .ireturn)])
/-- LockOrchestraModel.isLockThere(I)Z -/
def am_m249 : am_M := (12, false, 2, 2, (some .boolean), ⟨"LockOrchestraModel", "isLockThere", "(I)Z"⟩, prog_14_method_45_code, [(0, .iload_n 1), (1, .i2l), (2, .lconst 0), (3, .aload_n 0), (4, .invokevirtual 389), (7, .iconst 1), (8, .isub), (9, .i2l), (10, .invokestatic 258), (13, .ireturn)])
/-- LockOrchestraModel.note(II)I -/
def am_m250 : am_M := (12, false, 3, 3, (some .int), ⟨"LockOrchestraModel", "note", "(II)I"⟩, prog_14_method_53_code, [(0, .aload_n 0), (1, .iload_n 1), (2, .invokevirtual 421), (5, .ifCond .ne 5), (8, .iconst (-1)), (9, .ireturn), (10, .iload_n 2), (11, .i2l), (12, .ldc2_w 424), (15, .bipush 9), (17, .aload_n 0), (18, .invokevirtual 389), (21, .iadd), (22, .i2l), (23, .invokestatic 258), (26, .ifCond .eq 13), (29, .aload_n 0), (30, .iload_n 1), (31, .iload_n 2), (32, .bipush 10), (34, .isub), (35, .invokevirtual 392), (38, .ireturn), (39, .iload_n 2), (40, .ifCond .ne 19), (43, .aload_n 0), (44, .iload_n 1), (45, .invokevirtual 426), (48, .ifCond .eq 7), (51, .iconst 1), (52, .goto 21), (55, .iconst 0), (56, .goto 17), (59, .iload_n 2), (60, .iconst 1), (61, .if_icmp .ne 11), (64, .aload_n 0), (65, .iload_n 1), (66, .invokevirtual 429), (69, .goto 4), (72, .iconst (-1)), (73, .ireturn)])
/-- LockOrchestraModel.isNote(I)Z -/
def am_m251 : am_M := (12, false, 2, 2, (some .boolean), ⟨"LockOrchestraModel", "isNote", "(I)Z"⟩, prog_14_method_44_code, [(0, .iload_n 1), (1, .i2l), (2, .lconst 0), (3, .aload_n 0), (4, .invokevirtual 405), (7, .iconst 1), (8, .isub), (9, .i2l), (10, .invokestatic 258), (13, .ireturn)])
/-- LockOrchestraModel.canPlay(I)Z -/
def am_m252 : am_M := (12, false, 2, 3, (some .boolean), ⟨"LockOrchestraModel", "canPlay", "(I)Z"⟩, prog_14_method_42_code, [(0, .iload_n 1), (1, .bipush 6), (3, .if_icmp .ne 5), (6, .iconst 1), (7, .ireturn), (8, .iconst 0), (9, .istore_n 2), (10, .iload_n 2), (11, .aload_n 0), (12, .invokevirtual 389), (15, .if_icmp .ge 28), (18, .aload_n 0), (19, .iload_n 1), (20, .iload_n 2), (21, .invokevirtual 392), (24, .ifCond .le 13), (27, .aload_n 0), (28, .iload_n 2), (29, .invokevirtual 395), (32, .ifCond .eq 5), (35, .iconst 0), (36, .ireturn), (37, .iinc 2 1), (40, .goto (-30)), (43, .iconst 1), (44, .ireturn)])
/-- LockOrchestraModel.playersOf(I)I -/
def am_m253 : am_M := (12, false, 2, 4, (some .int), ⟨"LockOrchestraModel", "playersOf", "(I)I"⟩, prog_14_method_52_code, [(0, .iconst 0), (1, .istore_n 2), (2, .iconst 0), (3, .istore_n 3), (4, .iload_n 3), (5, .aload_n 0), (6, .invokevirtual 418), (9, .if_icmp .ge 31), (12, .aload_n 0), (13, .getfield 94), (16, .iconst 5), (17, .iload_n 3), (18, .iadd), (19, .iaload), (20, .iload_n 1), (21, .ishr), (22, .iconst 1), (23, .iand), (24, .iconst 1), (25, .if_icmp .ne 9), (28, .iload_n 2), (29, .iconst 1), (30, .iload_n 3), (31, .ishl), (32, .ior), (33, .istore_n 2), (34, .iinc 3 1), (37, .goto (-33)), (40, .iload_n 2), (41, .ireturn)])
/-- LockOrchestraModel.playerMany()I -/
def am_m254 : am_M := (12, false, 1, 1, (some .int), ⟨"LockOrchestraModel", "playerMany", "()I"⟩, prog_14_method_33_code, [(0, .aload_n 0), (1, .getfield 81), (4, .bipush 7), (6, .iaload), (7, .ireturn)])
/-- LockOrchestraModel.door(I)I -/
def am_m255 : am_M := (12, false, 2, 2, (some .int), ⟨"LockOrchestraModel", "door", "(I)I"⟩, prog_14_method_54_code, [(0, .iload_n 1), (1, .i2l), (2, .lconst 0), (3, .aload_n 0), (4, .invokevirtual 383), (7, .iconst 1), (8, .isub), (9, .i2l), (10, .invokestatic 258), (13, .ifCond .eq 19), (16, .aload_n 0), (17, .iload_n 1), (18, .invokevirtual 386), (21, .ifCond .eq 7), (24, .iconst 1), (25, .goto 8), (28, .iconst 0), (29, .goto 4), (32, .iconst (-1)), (33, .ireturn)])
/-- LockOrchestraModel.player(I)I -/
def am_m256 : am_M := (12, false, 2, 2, (some .int), ⟨"LockOrchestraModel", "player", "(I)I"⟩, prog_14_method_55_code, [(0, .iload_n 1), (1, .i2l), (2, .lconst 0), (3, .aload_n 0), (4, .invokevirtual 418), (7, .iconst 1), (8, .isub), (9, .i2l), (10, .invokestatic 258), (13, .ifCond .eq 14), (16, .aload_n 0), (17, .getfield 94), (20, .iconst 5), (21, .iload_n 1), (22, .iadd), (23, .iaload), (24, .goto 4), (27, .iconst (-1)), (28, .ireturn)])
/-- LockOrchestraModel.kept(II)I -/
def am_m257 : am_M := (12, false, 3, 3, (some .int), ⟨"LockOrchestraModel", "kept", "(II)I"⟩, prog_14_method_56_code, [(0, .iload_n 1), (1, .i2l), (2, .lconst 0), (3, .aload_n 0), (4, .getfield 109), (7, .bipush 6), (9, .iaload), (10, .iconst 1), (11, .isub), (12, .i2l), (13, .invokestatic 258), (16, .ifCond .eq 31), (19, .iload_n 2), (20, .i2l), (21, .lconst 0), (22, .ldc2_w 432), (25, .invokestatic 258), (28, .ifCond .eq 19), (31, .aload_n 0), (32, .getfield 109), (35, .bipush 7), (37, .iconst 3), (38, .iload_n 1), (39, .imul), (40, .iadd), (41, .iload_n 2), (42, .iadd), (43, .iaload), (44, .goto 4), (47, .iconst (-1)), (48, .ireturn)])
/-- LockOrchestraModel.judge()I -/
def am_m258 : am_M := (12, false, 1, 3, (some .int), ⟨"LockOrchestraModel", "judge", "()I"⟩, prog_14_method_59_code, [(0, .aload_n 0), (1, .iconst 0), (2, .invokevirtual 439), (5, .ifCond .ne 9), (8, .aload_n 0), (9, .iconst 1), (10, .invokevirtual 442), (13, .ireturn), (14, .aload_n 0), (15, .invokevirtual 445), (18, .aload_n 0), (19, .iconst 0), (20, .putfield 448), (23, .iconst 0), (24, .istore_n 1), (25, .iload_n 1), (26, .aload_n 0), (27, .getfield 436), (30, .if_icmp .ge 57), (33, .aload_n 0), (34, .aload_n 0), (35, .getfield 115), (38, .iload_n 1), (39, .iaload), (40, .invokevirtual 426), (43, .ifCond .eq 44), (46, .aload_n 0), (47, .invokevirtual 408), (50, .istore_n 2), (51, .aload_n 0), (52, .aload_n 0), (53, .getfield 115), (56, .iload_n 1), (57, .iaload), (58, .invokevirtual 451), (61, .aload_n 0), (62, .dup), (63, .getfield 448), (66, .aload_n 0), (67, .invokevirtual 408), (70, .iload_n 2), (71, .iconst (-1)), (72, .ixor), (73, .iand), (74, .invokestatic 454), (77, .iadd), (78, .putfield 448), (81, .iinc 1 1), (84, .goto (-59)), (87, .aload_n 0), (88, .aload_n 0), (89, .invokevirtual 408), (92, .putfield 457), (95, .aload_n 0), (96, .aload_n 0), (97, .invokevirtual 358), (100, .putfield 460), (103, .aload_n 0), (104, .iconst 1), (105, .putfield 355), (108, .aload_n 0), (109, .invokevirtual 463), (112, .iload_n 1), (113, .ireturn)])
/-- LockOrchestraModel.isPiece(I)Z -/
def am_m259 : am_M := (12, false, 2, 4, (some .boolean), ⟨"LockOrchestraModel", "isPiece", "(I)Z"⟩, prog_14_method_57_code, [(0, .aload_n 0), (1, .getfield 215), (4, .istore_n 2), (5, .aload_n 0), (6, .iconst 0), (7, .putfield 215), (10, .iload_n 2), (11, .i2l), (12, .iload_n 1), (13, .i2l), (14, .ldc2_w 434), (17, .invokestatic 258), (20, .ifCond .ne 5), (23, .iconst 0), (24, .ireturn), (25, .iconst 0), (26, .istore_n 3), (27, .iload_n 3), (28, .iload_n 2), (29, .if_icmp .ge 35), (32, .aload_n 0), (33, .getfield 7), (36, .iload_n 3), (37, .iaload), (38, .bipush 6), (40, .if_icmp .eq 18), (43, .aload_n 0), (44, .aload_n 0), (45, .getfield 7), (48, .iload_n 3), (49, .iaload), (50, .invokevirtual 421), (53, .ifCond .ne 5), (56, .iconst 0), (57, .ireturn), (58, .iinc 3 1), (61, .goto (-34)), (64, .iconst 0), (65, .istore_n 3), (66, .iload_n 3), (67, .iload_n 2), (68, .if_icmp .ge 21), (71, .aload_n 0), (72, .getfield 115), (75, .iload_n 3), (76, .aload_n 0), (77, .getfield 7), (80, .iload_n 3), (81, .iaload), (82, .iastore), (83, .iinc 3 1), (86, .goto (-20)), (89, .aload_n 0), (90, .iload_n 2), (91, .putfield 436), (94, .iconst 1), (95, .ireturn)])
/-- LockOrchestraModel.refuses(I)I -/
def am_m260 : am_M := (12, false, 2, 2, (some .int), ⟨"LockOrchestraModel", "refuses", "(I)I"⟩, prog_14_method_58_code, [(0, .aload_n 0), (1, .getfield 17), (4, .iload_n 1), (5, .dup2), (6, .iaload), (7, .iconst 1), (8, .iadd), (9, .iastore), (10, .iconst (-1)), (11, .ireturn)])
/-- LockOrchestraModel.putsAside()V -/
def am_m261 : am_M := (12, false, 1, 2, none, ⟨"LockOrchestraModel", "putsAside", "()V"⟩, prog_14_method_47_code, [(0, .iconst 0), (1, .istore_n 1), (2, .iload_n 1), (3, .bipush 127), (5, .if_icmp .ge 21), (8, .aload_n 0), (9, .getfield 112), (12, .iload_n 1), (13, .aload_n 0), (14, .getfield 109), (17, .iload_n 1), (18, .iaload), (19, .iastore), (20, .iinc 1 1), (23, .goto (-21)), (26, .return_)])
/-- LockOrchestraModel.turns(I)V -/
def am_m262 : am_M := (12, false, 2, 3, none, ⟨"LockOrchestraModel", "turns", "(I)V"⟩, prog_14_method_43_code, [(0, .iload_n 1), (1, .bipush 6), (3, .if_icmp .ne 4), (6, .return_), (7, .iconst 0), (8, .istore_n 2), (9, .iload_n 2), (10, .aload_n 0), (11, .invokevirtual 389), (14, .if_icmp .ge 78), (17, .aload_n 0), (18, .iload_n 1), (19, .iload_n 2), (20, .invokevirtual 392), (23, .ifCond .ne 6), (26, .goto 60), (29, .aload_n 0), (30, .getfield 109), (33, .iconst 1), (34, .iload_n 2), (35, .iadd), (36, .aload_n 0), (37, .iload_n 2), (38, .invokevirtual 398), (41, .aload_n 0), (42, .iload_n 1), (43, .iload_n 2), (44, .invokevirtual 392), (47, .iadd), (48, .aload_n 0), (49, .iload_n 2), (50, .invokevirtual 402), (53, .irem), (54, .iastore), (55, .aload_n 0), (56, .iload_n 2), (57, .invokevirtual 398), (60, .aload_n 0), (61, .getfield 88), (64, .bipush 14), (66, .iconst 3), (67, .iload_n 2), (68, .imul), (69, .iadd), (70, .iaload), (71, .if_icmp .ne 15), (74, .aload_n 0), (75, .getfield 109), (78, .iconst 5), (79, .dup2), (80, .iaload), (81, .iconst 1), (82, .iload_n 2), (83, .ishl), (84, .ior), (85, .iastore), (86, .iinc 2 1), (89, .goto (-80)), (92, .return_)])
/-- LockOrchestraModel.takesBack()V -/
def am_m263 : am_M := (12, false, 1, 2, none, ⟨"LockOrchestraModel", "takesBack", "()V"⟩, prog_14_method_48_code, [(0, .iconst 0), (1, .istore_n 1), (2, .iload_n 1), (3, .bipush 127), (5, .if_icmp .ge 21), (8, .aload_n 0), (9, .getfield 109), (12, .iload_n 1), (13, .aload_n 0), (14, .getfield 112), (17, .iload_n 1), (18, .iaload), (19, .iastore), (20, .iinc 1 1), (23, .goto (-21)), (26, .return_)])
/-- LockOrchestraModel.judged(I)I -/
def am_m264 : am_M := (12, false, 2, 2, (some .int), ⟨"LockOrchestraModel", "judged", "(I)I"⟩, prog_14_method_60_code, [(0, .aload_n 0), (1, .getfield 355), (4, .ifCond .ne 5), (7, .iconst (-1)), (8, .ireturn), (9, .iload_n 1), (10, .ifCond .ne 10), (13, .aload_n 0), (14, .getfield 457), (17, .goto 28), (20, .iload_n 1), (21, .iconst 1), (22, .if_icmp .ne 10), (25, .aload_n 0), (26, .getfield 460), (29, .goto 16), (32, .iload_n 1), (33, .iconst 2), (34, .if_icmp .ne 10), (37, .aload_n 0), (38, .getfield 448), (41, .goto 4), (44, .iconst (-1)), (45, .ireturn)])
/-- LockOrchestraModel.shortest(II)I -/
def am_m265 : am_M := (12, false, 3, 3, (some .int), ⟨"LockOrchestraModel", "shortest", "(II)I"⟩, prog_14_method_69_code, [(0, .aload_n 0), (1, .iload_n 1), (2, .invokevirtual 488), (5, .ifCond .eq 18), (8, .aload_n 0), (9, .aload_n 0), (10, .iconst 0), (11, .iconst 0), (12, .iload_n 1), (13, .invokevirtual 491), (16, .iload_n 2), (17, .invokevirtual 495), (20, .goto 4), (23, .iconst (-1)), (24, .ireturn)])
/-- LockOrchestraModel.areDoors(I)Z -/
def am_m266 : am_M := (12, false, 2, 2, (some .boolean), ⟨"LockOrchestraModel", "areDoors", "(I)Z"⟩, prog_14_method_46_code, [(0, .iload_n 1), (1, .i2l), (2, .lconst 0), (3, .iconst 1), (4, .aload_n 0), (5, .invokevirtual 383), (8, .ishl), (9, .iconst 1), (10, .isub), (11, .i2l), (12, .invokestatic 258), (15, .ireturn)])
/-- LockOrchestraModel.seeks(III)I -/
def am_m267 : am_M := (12, false, 4, 8, (some .int), ⟨"LockOrchestraModel", "seeks", "(III)I"⟩, prog_14_method_67_code, [(0, .iconst 0), (1, .istore 4), (3, .iload 4), (5, .sipush 10000), (8, .if_icmp .ge 17), (11, .aload_n 0), (12, .getfield 118), (15, .iload 4), (17, .iconst (-1)), (18, .iastore), (19, .iinc 4 1), (22, .goto (-19)), (25, .aload_n 0), (26, .invokevirtual 472), (29, .istore 4), (31, .aload_n 0), (32, .getfield 118), (35, .iload 4), (37, .iconst 0), (38, .iastore), (39, .aload_n 0), (40, .getfield 127), (43, .iconst 0), (44, .iload 4), (46, .iastore), (47, .aload_n 0), (48, .iconst 1), (49, .putfield 475), (52, .iconst (-1)), (53, .istore 5), (55, .iconst 0), (56, .istore 6), (58, .iload 6), (60, .aload_n 0), (61, .getfield 475), (64, .if_icmp .ge 120), (67, .iload 5), (69, .iconst (-1)), (70, .if_icmp .ne 114), (73, .aload_n 0), (74, .aload_n 0), (75, .getfield 127), (78, .iload 6), (80, .iaload), (81, .invokevirtual 478), (84, .aload_n 0), (85, .iload_n 2), (86, .iload_n 3), (87, .invokevirtual 481), (90, .ifCond .eq 12), (93, .aload_n 0), (94, .getfield 127), (97, .iload 6), (99, .iaload), (100, .istore 5), (102, .iconst 0), (103, .istore 7), (105, .iload 7), (107, .aload_n 0), (108, .invokevirtual 405), (111, .if_icmp .ge 67), (114, .iload 5), (116, .iconst (-1)), (117, .if_icmp .ne 61), (120, .iload_n 1), (121, .iload 7), (123, .ishr), (124, .iconst 1), (125, .iand), (126, .iconst 1), (127, .if_icmp .eq 45), (130, .aload_n 0), (131, .iload 7), (133, .invokevirtual 426), (136, .ifCond .ne 6), (139, .goto 33), (142, .aload_n 0), (143, .iload 7), (145, .invokevirtual 451), (148, .aload_n 0), (149, .aload_n 0), (150, .getfield 127), (153, .iload 6), (155, .iaload), (156, .iload 7), (158, .invokevirtual 485), (161, .aload_n 0), (162, .aload_n 0), (163, .getfield 127), (166, .iload 6), (168, .iaload), (169, .invokevirtual 478), (172, .iinc 7 1), (175, .goto (-70)), (178, .iinc 6 1), (181, .goto (-123)), (184, .aload_n 0), (185, .iload 4), (187, .invokevirtual 478), (190, .iload 5), (192, .ireturn)])
/-- LockOrchestraModel.stateNow()I -/
def am_m268 : am_M := (12, false, 1, 3, (some .int), ⟨"LockOrchestraModel", "stateNow", "()I"⟩, prog_14_method_62_code, [(0, .iconst 0), (1, .istore_n 1), (2, .aload_n 0), (3, .invokevirtual 389), (6, .iconst 1), (7, .isub), (8, .istore_n 2), (9, .iload_n 2), (10, .ifCond .lt 23), (13, .iload_n 1), (14, .aload_n 0), (15, .iload_n 2), (16, .invokevirtual 402), (19, .imul), (20, .aload_n 0), (21, .iload_n 2), (22, .invokevirtual 398), (25, .iadd), (26, .istore_n 1), (27, .iinc 2 (-1)), (30, .goto (-21)), (33, .iload_n 1), (34, .aload_n 0), (35, .invokevirtual 466), (38, .aload_n 0), (39, .invokevirtual 358), (42, .imul), (43, .iadd), (44, .ireturn)])
/-- LockOrchestraModel.wardWays()I -/
def am_m269 : am_M := (12, false, 1, 3, (some .int), ⟨"LockOrchestraModel", "wardWays", "()I"⟩, prog_14_method_61_code, [(0, .iconst 1), (1, .istore_n 1), (2, .iconst 0), (3, .istore_n 2), (4, .iload_n 2), (5, .aload_n 0), (6, .invokevirtual 389), (9, .if_icmp .ge 17), (12, .iload_n 1), (13, .aload_n 0), (14, .iload_n 2), (15, .invokevirtual 402), (18, .imul), (19, .istore_n 1), (20, .iinc 2 1), (23, .goto (-19)), (26, .iload_n 1), (27, .ireturn)])
/-- LockOrchestraModel.isState(I)V -/
def am_m270 : am_M := (12, false, 2, 4, none, ⟨"LockOrchestraModel", "isState", "(I)V"⟩, prog_14_method_63_code, [(0, .iload_n 1), (1, .aload_n 0), (2, .invokevirtual 466), (5, .irem), (6, .istore_n 2), (7, .iconst 0), (8, .istore_n 3), (9, .iload_n 3), (10, .aload_n 0), (11, .invokevirtual 389), (14, .if_icmp .ge 32), (17, .aload_n 0), (18, .getfield 109), (21, .iconst 1), (22, .iload_n 3), (23, .iadd), (24, .iload_n 2), (25, .aload_n 0), (26, .iload_n 3), (27, .invokevirtual 402), (30, .irem), (31, .iastore), (32, .iload_n 2), (33, .aload_n 0), (34, .iload_n 3), (35, .invokevirtual 402), (38, .idiv), (39, .istore_n 2), (40, .iinc 3 1), (43, .goto (-34)), (46, .aload_n 0), (47, .getfield 109), (50, .iconst 5), (51, .iload_n 1), (52, .aload_n 0), (53, .invokevirtual 466), (56, .idiv), (57, .iastore), (58, .return_)])
/-- LockOrchestraModel.isThere(II)Z -/
def am_m271 : am_M := (12, false, 3, 3, (some .boolean), ⟨"LockOrchestraModel", "isThere", "(II)Z"⟩, prog_14_method_64_code, [(0, .iload_n 1), (1, .tableswitch 63 0 2 #[27, 41, 58]), (28, .aload_n 0), (29, .invokevirtual 408), (32, .iload_n 2), (33, .if_icmp .ne 7), (36, .iconst 1), (37, .goto 4), (40, .iconst 0), (41, .ireturn), (42, .iload_n 2), (43, .aload_n 0), (44, .invokevirtual 408), (47, .iconst (-1)), (48, .ixor), (49, .iand), (50, .ifCond .ne 7), (53, .iconst 1), (54, .goto 4), (57, .iconst 0), (58, .ireturn), (59, .aload_n 0), (60, .invokevirtual 469), (63, .ireturn), (64, .iconst 0), (65, .ireturn)])
/-- LockOrchestraModel.isAsTold()Z -/
def am_m272 : am_M := (12, false, 1, 2, (some .boolean), ⟨"LockOrchestraModel", "isAsTold", "()Z"⟩, prog_14_method_65_code, [(0, .iconst 0), (1, .istore_n 1), (2, .iload_n 1), (3, .aload_n 0), (4, .invokevirtual 389), (7, .if_icmp .ge 30), (10, .aload_n 0), (11, .iload_n 1), (12, .invokevirtual 398), (15, .aload_n 0), (16, .getfield 88), (19, .bipush 13), (21, .iconst 3), (22, .iload_n 1), (23, .imul), (24, .iadd), (25, .iaload), (26, .if_icmp .eq 5), (29, .iconst 0), (30, .ireturn), (31, .iinc 1 1), (34, .goto (-32)), (37, .aload_n 0), (38, .invokevirtual 358), (41, .ifCond .ne 7), (44, .iconst 1), (45, .goto 4), (48, .iconst 0), (49, .ireturn)])
/-- LockOrchestraModel.comesTo(II)V -/
def am_m273 : am_M := (12, false, 3, 4, none, ⟨"LockOrchestraModel", "comesTo", "(II)V"⟩, prog_14_method_66_code, [(0, .aload_n 0), (1, .invokevirtual 472), (4, .istore_n 3), (5, .aload_n 0), (6, .getfield 118), (9, .iload_n 3), (10, .iaload), (11, .iconst (-1)), (12, .if_icmp .eq 4), (15, .return_), (16, .aload_n 0), (17, .getfield 118), (20, .iload_n 3), (21, .aload_n 0), (22, .getfield 118), (25, .iload_n 1), (26, .iaload), (27, .iconst 1), (28, .iadd), (29, .iastore), (30, .aload_n 0), (31, .getfield 121), (34, .iload_n 3), (35, .iload_n 1), (36, .iastore), (37, .aload_n 0), (38, .getfield 124), (41, .iload_n 3), (42, .iload_n 2), (43, .iastore), (44, .aload_n 0), (45, .getfield 127), (48, .aload_n 0), (49, .getfield 475), (52, .iload_n 3), (53, .iastore), (54, .aload_n 0), (55, .dup), (56, .getfield 475), (59, .iconst 1), (60, .iadd), (61, .putfield 475), (64, .return_)])
/-- LockOrchestraModel.wayTo(II)I -/
def am_m274 : am_M := (12, false, 3, 4, (some .int), ⟨"LockOrchestraModel", "wayTo", "(II)I"⟩, prog_14_method_68_code, [(0, .iload_n 1), (1, .iconst (-1)), (2, .if_icmp .eq 8), (5, .iload_n 2), (6, .iconst (-1)), (7, .if_icmp .ge 5), (10, .iconst (-1)), (11, .ireturn), (12, .iload_n 2), (13, .iconst (-1)), (14, .if_icmp .ne 10), (17, .aload_n 0), (18, .getfield 118), (21, .iload_n 1), (22, .iaload), (23, .ireturn), (24, .iload_n 2), (25, .aload_n 0), (26, .getfield 118), (29, .iload_n 1), (30, .iaload), (31, .if_icmp .lt 5), (34, .iconst (-1)), (35, .ireturn), (36, .iload_n 1), (37, .istore_n 3), (38, .aload_n 0), (39, .getfield 118), (42, .iload_n 3), (43, .iaload), (44, .iload_n 2), (45, .iconst 1), (46, .iadd), (47, .if_icmp .le 13), (50, .aload_n 0), (51, .getfield 121), (54, .iload_n 3), (55, .iaload), (56, .istore_n 3), (57, .goto (-19)), (60, .aload_n 0), (61, .getfield 124), (64, .iload_n 3), (65, .iaload), (66, .ireturn)])
/-- LockOrchestraModel.back(I)I -/
def am_m275 : am_M := (12, false, 2, 2, (some .int), ⟨"LockOrchestraModel", "back", "(I)I"⟩, prog_14_method_70_code, [(0, .aload_n 0), (1, .aload_n 0), (2, .iconst 0), (3, .iconst 2), (4, .iconst 0), (5, .invokevirtual 491), (8, .iload_n 1), (9, .invokevirtual 495), (12, .ireturn)])
/-- LockOrchestraModel.states()I -/
def am_m276 : am_M := (12, false, 1, 1, (some .int), ⟨"LockOrchestraModel", "states", "()I"⟩, prog_14_method_71_code, [(0, .aload_n 0), (1, .iconst 0), (2, .iconst 3), (3, .iconst 0), (4, .invokevirtual 491), (7, .pop), (8, .aload_n 0), (9, .getfield 475), (12, .ireturn)])
/-- LockOrchestraModel.forbid(I)I -/
def am_m277 : am_M := (12, false, 2, 4, (some .int), ⟨"LockOrchestraModel", "forbid", "(I)I"⟩, prog_14_method_72_code, [(0, .aload_n 0), (1, .iload_n 1), (2, .invokevirtual 488), (5, .ifCond .eq 12), (8, .aload_n 0), (9, .iconst 1), (10, .iload_n 1), (11, .invokevirtual 481), (14, .ifCond .eq 5), (17, .iconst (-1)), (18, .ireturn), (19, .iconst (-1)), (20, .istore_n 2), (21, .iconst 0), (22, .istore_n 3), (23, .iload_n 3), (24, .iconst 1), (25, .aload_n 0), (26, .invokevirtual 405), (29, .ishl), (30, .if_icmp .ge 41), (33, .iload_n 2), (34, .iconst (-1)), (35, .if_icmp .eq 17), (38, .iload_n 3), (39, .invokestatic 454), (42, .iload_n 2), (43, .invokestatic 454), (46, .if_icmp .lt 6), (49, .goto 16), (52, .aload_n 0), (53, .iload_n 3), (54, .iconst 1), (55, .iload_n 1), (56, .invokevirtual 491), (59, .iconst (-1)), (60, .if_icmp .ne 5), (63, .iload_n 3), (64, .istore_n 2), (65, .iinc 3 1), (68, .goto (-45)), (71, .iload_n 2), (72, .ireturn)])
/-- LockOrchestraModel.share()I -/
def am_m278 : am_M := (12, false, 1, 3, (some .int), ⟨"LockOrchestraModel", "share", "()I"⟩, prog_14_method_75_code, [(0, .aload_n 0), (1, .iconst 0), (2, .invokevirtual 439), (5, .ifCond .ne 9), (8, .aload_n 0), (9, .iconst 1), (10, .invokevirtual 442), (13, .ireturn), (14, .iconst (-1)), (15, .istore_n 1), (16, .iconst 0), (17, .istore_n 2), (18, .iload_n 2), (19, .iconst 1), (20, .aload_n 0), (21, .invokevirtual 418), (24, .ishl), (25, .if_icmp .ge 38), (28, .iload_n 1), (29, .iconst (-1)), (30, .if_icmp .eq 17), (33, .iload_n 2), (34, .invokestatic 454), (37, .iload_n 1), (38, .invokestatic 454), (41, .if_icmp .lt 6), (44, .goto 13), (47, .aload_n 0), (48, .iload_n 2), (49, .invokevirtual 501), (52, .ifCond .eq 5), (55, .iload_n 2), (56, .istore_n 1), (57, .iinc 2 1), (60, .goto (-42)), (63, .iload_n 1), (64, .ireturn)])
/-- LockOrchestraModel.isSharedBy(I)Z -/
def am_m279 : am_M := (12, false, 2, 6, (some .boolean), ⟨"LockOrchestraModel", "isSharedBy", "(I)Z"⟩, prog_14_method_73_code, [(0, .iconst 0), (1, .istore_n 2), (2, .iconst 0), (3, .istore_n 3), (4, .iload_n 3), (5, .aload_n 0), (6, .getfield 436), (9, .if_icmp .ge 87), (12, .aload_n 0), (13, .getfield 115), (16, .iload_n 3), (17, .iaload), (18, .istore 4), (20, .iload 4), (22, .bipush 6), (24, .if_icmp .ne 7), (27, .iconst 0), (28, .goto 11), (31, .aload_n 0), (32, .iload 4), (34, .invokevirtual 429), (37, .iload_n 1), (38, .iand), (39, .istore 5), (41, .iload 4), (43, .bipush 6), (45, .if_icmp .eq 28), (48, .iload_n 3), (49, .ifCond .le 24), (52, .aload_n 0), (53, .getfield 115), (56, .iload_n 3), (57, .iconst 1), (58, .isub), (59, .iaload), (60, .bipush 6), (62, .if_icmp .eq 11), (65, .iload 5), (67, .iload_n 2), (68, .invokestatic 498), (71, .istore 5), (73, .iload 4), (75, .bipush 6), (77, .if_icmp .eq 10), (80, .iload 5), (82, .ifCond .ne 5), (85, .iconst 0), (86, .ireturn), (87, .iload 5), (89, .istore_n 2), (90, .iinc 3 1), (93, .goto (-89)), (96, .iconst 1), (97, .ireturn)])
/-- LockOrchestraModel.otherThan(II)I -/
def am_m280 : am_M := (12, false, 2, 2, (some .int), ⟨"LockOrchestraModel", "otherThan", "(II)I"⟩, prog_14_method_74_code, [(0, .iload_n 1), (1, .invokestatic 454), (4, .iconst 1), (5, .if_icmp .le 7), (8, .iload_n 0), (9, .goto 8), (12, .iload_n 0), (13, .iload_n 1), (14, .iconst (-1)), (15, .ixor), (16, .iand), (17, .ireturn)])
/-- LockOrchestraModel.slip(I)I -/
def am_m281 : am_M := (12, false, 2, 6, (some .int), ⟨"LockOrchestraModel", "slip", "(I)I"⟩, prog_14_method_77_code, [(0, .aload_n 0), (1, .iconst 0), (2, .invokevirtual 439), (5, .ifCond .eq 11), (8, .aload_n 0), (9, .iload_n 1), (10, .invokevirtual 488), (13, .ifCond .ne 9), (16, .aload_n 0), (17, .iconst 1), (18, .invokevirtual 442), (21, .ireturn), (22, .aload_n 0), (23, .iconst (-1)), (24, .putfield 130), (27, .aload_n 0), (28, .iconst (-1)), (29, .putfield 133), (32, .iconst 0), (33, .istore_n 2), (34, .iconst 0), (35, .istore_n 3), (36, .iload_n 3), (37, .aload_n 0), (38, .getfield 436), (41, .if_icmp .ge 88), (44, .iconst 0), (45, .istore 4), (47, .iload 4), (49, .aload_n 0), (50, .invokevirtual 405), (53, .if_icmp .gt 70), (56, .iload 4), (58, .aload_n 0), (59, .invokevirtual 405), (62, .if_icmp .ne 8), (65, .bipush 6), (67, .goto 5), (70, .iload 4), (72, .istore 5), (74, .iload 5), (76, .aload_n 0), (77, .getfield 115), (80, .iload_n 3), (81, .iaload), (82, .if_icmp .eq 35), (85, .aload_n 0), (86, .iload_n 3), (87, .iload 5), (89, .iload_n 1), (90, .invokevirtual 504), (93, .ifCond .ne 6), (96, .goto 21), (99, .iload_n 2), (100, .ifCond .ne 14), (103, .aload_n 0), (104, .iload_n 3), (105, .putfield 130), (108, .aload_n 0), (109, .iload 5), (111, .putfield 133), (114, .iinc 2 1), (117, .iinc 4 1), (120, .goto (-73)), (123, .iinc 3 1), (126, .goto (-90)), (129, .iload_n 2), (130, .ireturn)])
/-- LockOrchestraModel.isSlip(III)Z -/
def am_m282 : am_M := (12, false, 4, 7, (some .boolean), ⟨"LockOrchestraModel", "isSlip", "(III)Z"⟩, prog_14_method_76_code, [(0, .aload_n 0), (1, .invokevirtual 445), (4, .iconst 1), (5, .istore 4), (7, .iconst 0), (8, .istore 5), (10, .iload 5), (12, .aload_n 0), (13, .getfield 436), (16, .if_icmp .ge 52), (19, .iload 4), (21, .ifCond .eq 47), (24, .iload 5), (26, .iload_n 1), (27, .if_icmp .ne 7), (30, .iload_n 2), (31, .goto 10), (34, .aload_n 0), (35, .getfield 115), (38, .iload 5), (40, .iaload), (41, .istore 6), (43, .aload_n 0), (44, .iload 6), (46, .invokevirtual 426), (49, .istore 4), (51, .iload 4), (53, .ifCond .eq 9), (56, .aload_n 0), (57, .iload 6), (59, .invokevirtual 451), (62, .iinc 5 1), (65, .goto (-55)), (68, .iload 4), (70, .ifCond .eq 15), (73, .aload_n 0), (74, .invokevirtual 408), (77, .iload_n 3), (78, .if_icmp .ne 7), (81, .iconst 1), (82, .goto 4), (85, .iconst 0), (86, .istore 5), (88, .aload_n 0), (89, .invokevirtual 463), (92, .iload 5), (94, .ireturn)])
/-- LockOrchestraModel.slipped(I)I -/
def am_m283 : am_M := (12, false, 2, 2, (some .int), ⟨"LockOrchestraModel", "slipped", "(I)I"⟩, prog_14_method_78_code, [(0, .iload_n 1), (1, .ifCond .ne 10), (4, .aload_n 0), (5, .getfield 130), (8, .goto 16), (11, .iload_n 1), (12, .iconst 1), (13, .if_icmp .ne 10), (16, .aload_n 0), (17, .getfield 133), (20, .goto 4), (23, .iconst (-1)), (24, .ireturn)])
/-- LockOrchestraModel.hear()I -/
def am_m284 : am_M := (12, false, 1, 4, (some .int), ⟨"LockOrchestraModel", "hear", "()I"⟩, prog_14_method_79_code, [(0, .aload_n 0), (1, .getfield 215), (4, .istore_n 1), (5, .aload_n 0), (6, .iconst 0), (7, .putfield 215), (10, .iload_n 1), (11, .ifCond .le 21), (14, .iload_n 1), (15, .iconst 2), (16, .irem), (17, .ifCond .ne 15), (20, .iload_n 1), (21, .iconst 2), (22, .idiv), (23, .bipush 20), (25, .if_icmp .gt 7), (28, .iconst 1), (29, .goto 4), (32, .iconst 0), (33, .istore_n 2), (34, .iconst 0), (35, .istore_n 3), (36, .iload_n 3), (37, .iload_n 1), (38, .if_icmp .ge 58), (41, .iload_n 2), (42, .ifCond .eq 54), (45, .aload_n 0), (46, .getfield 7), (49, .iload_n 3), (50, .iaload), (51, .bipush 6), (53, .if_icmp .eq 16), (56, .aload_n 0), (57, .aload_n 0), (58, .getfield 7), (61, .iload_n 3), (62, .iaload), (63, .invokevirtual 421), (66, .ifCond .eq 22), (69, .aload_n 0), (70, .aload_n 0), (71, .getfield 7), (74, .iload_n 3), (75, .iconst 1), (76, .iadd), (77, .iaload), (78, .invokevirtual 488), (81, .ifCond .eq 7), (84, .iconst 1), (85, .goto 4), (88, .iconst 0), (89, .istore_n 2), (90, .iinc 3 2), (93, .goto (-57)), (96, .iload_n 2), (97, .ifCond .ne 9), (100, .aload_n 0), (101, .iconst 1), (102, .invokevirtual 442), (105, .ireturn), (106, .iconst 0), (107, .istore_n 3), (108, .iload_n 3), (109, .iload_n 1), (110, .if_icmp .ge 21), (113, .aload_n 0), (114, .getfield 136), (117, .iload_n 3), (118, .aload_n 0), (119, .getfield 7), (122, .iload_n 3), (123, .iaload), (124, .iastore), (125, .iinc 3 1), (128, .goto (-20)), (131, .aload_n 0), (132, .iload_n 1), (133, .iconst 2), (134, .idiv), (135, .putfield 352), (138, .aload_n 0), (139, .getfield 352), (142, .ireturn)])
/-- LockOrchestraModel.starts(I)I -/
def am_m285 : am_M := (12, false, 2, 6, (some .int), ⟨"LockOrchestraModel", "starts", "(I)I"⟩, prog_14_method_81_code, [(0, .aload_n 0), (1, .getfield 352), (4, .ifCond .eq 15), (7, .iload_n 1), (8, .i2l), (9, .lconst 0), (10, .ldc2_w 432), (13, .invokestatic 258), (16, .ifCond .ne 5), (19, .iconst (-1)), (20, .ireturn), (21, .iconst 0), (22, .istore_n 2), (23, .iconst (-1)), (24, .istore_n 3), (25, .iconst (-1)), (26, .istore 4), (28, .aload_n 0), (29, .invokevirtual 445), (32, .iconst 0), (33, .istore 5), (35, .iload 5), (37, .aload_n 0), (38, .invokevirtual 466), (41, .if_icmp .ge 36), (44, .aload_n 0), (45, .iload 5), (47, .invokevirtual 507), (50, .ifCond .ne 6), (53, .goto 18), (56, .iinc 2 1), (59, .iload_n 3), (60, .iconst (-1)), (61, .if_icmp .ne 6), (64, .iload 5), (66, .istore_n 3), (67, .iload 5), (69, .istore 4), (71, .iinc 5 1), (74, .goto (-39)), (77, .aload_n 0), (78, .invokevirtual 463), (81, .iload_n 1), (82, .ifCond .ne 7), (85, .iload_n 2), (86, .goto 14), (89, .iload_n 1), (90, .iconst 1), (91, .if_icmp .ne 7), (94, .iload_n 3), (95, .goto 5), (98, .iload 4), (100, .ireturn)])
/-- LockOrchestraModel.isHeardFrom(I)Z -/
def am_m286 : am_M := (12, false, 2, 3, (some .boolean), ⟨"LockOrchestraModel", "isHeardFrom", "(I)Z"⟩, prog_14_method_80_code, [(0, .aload_n 0), (1, .iload_n 1), (2, .invokevirtual 478), (5, .iconst 0), (6, .istore_n 2), (7, .iload_n 2), (8, .aload_n 0), (9, .getfield 352), (12, .if_icmp .ge 57), (15, .aload_n 0), (16, .aload_n 0), (17, .getfield 136), (20, .iconst 2), (21, .iload_n 2), (22, .imul), (23, .iaload), (24, .invokevirtual 426), (27, .ifCond .ne 5), (30, .iconst 0), (31, .ireturn), (32, .aload_n 0), (33, .aload_n 0), (34, .getfield 136), (37, .iconst 2), (38, .iload_n 2), (39, .imul), (40, .iaload), (41, .invokevirtual 451), (44, .aload_n 0), (45, .invokevirtual 408), (48, .aload_n 0), (49, .getfield 136), (52, .iconst 2), (53, .iload_n 2), (54, .imul), (55, .iconst 1), (56, .iadd), (57, .iaload), (58, .if_icmp .eq 5), (61, .iconst 0), (62, .ireturn), (63, .iinc 2 1), (66, .goto (-59)), (69, .iconst 1), (70, .ireturn)])
/-- LockOrchestraModel.hangs(I)I -/
def am_m287 : am_M := (12, false, 2, 7, (some .int), ⟨"LockOrchestraModel", "hangs", "(I)I"⟩, prog_14_method_82_code, [(0, .iload_n 1), (1, .i2l), (2, .lconst 0), (3, .aload_n 0), (4, .invokevirtual 383), (7, .iconst 1), (8, .isub), (9, .i2l), (10, .invokestatic 258), (13, .ifCond .ne 5), (16, .iconst (-1)), (17, .ireturn), (18, .aload_n 0), (19, .iload_n 1), (20, .invokevirtual 386), (23, .istore_n 2), (24, .iconst 0), (25, .istore_n 3), (26, .iconst 0), (27, .istore 4), (29, .iload 4), (31, .aload_n 0), (32, .invokevirtual 389), (35, .if_icmp .ge 75), (38, .aload_n 0), (39, .iload 4), (41, .invokevirtual 398), (44, .istore 5), (46, .iconst 0), (47, .istore 6), (49, .iload 6), (51, .aload_n 0), (52, .iload 4), (54, .invokevirtual 402), (57, .if_icmp .ge 36), (60, .aload_n 0), (61, .getfield 109), (64, .iconst 1), (65, .iload 4), (67, .iadd), (68, .iload 6), (70, .iastore), (71, .aload_n 0), (72, .iload_n 1), (73, .invokevirtual 386), (76, .iload_n 2), (77, .if_icmp .eq 10), (80, .iload_n 3), (81, .iconst 1), (82, .iload 4), (84, .ishl), (85, .ior), (86, .istore_n 3), (87, .iinc 6 1), (90, .goto (-41)), (93, .aload_n 0), (94, .getfield 109), (97, .iconst 1), (98, .iload 4), (100, .iadd), (101, .iload 5), (103, .iastore), (104, .iinc 4 1), (107, .goto (-78)), (110, .iload_n 3), (111, .ireturn)])
/-- LockOrchestraModel.undo()Z -/
def am_m288 : am_M := (12, false, 1, 2, (some .boolean), ⟨"LockOrchestraModel", "undo", "()Z"⟩, prog_14_method_84_code, [(0, .aload_n 0), (1, .getfield 349), (4, .ifCond .ne 15), (7, .aload_n 0), (8, .getfield 17), (11, .iconst 4), (12, .dup2), (13, .iaload), (14, .iconst 1), (15, .iadd), (16, .iastore), (17, .iconst 0), (18, .ireturn), (19, .iconst 0), (20, .istore_n 1), (21, .iload_n 1), (22, .bipush 127), (24, .if_icmp .ge 29), (27, .aload_n 0), (28, .getfield 109), (31, .iload_n 1), (32, .aload_n 0), (33, .getfield 139), (36, .bipush 127), (38, .aload_n 0), (39, .getfield 510), (42, .imul), (43, .iload_n 1), (44, .iadd), (45, .iaload), (46, .iastore), (47, .iinc 1 1), (50, .goto (-29)), (53, .aload_n 0), (54, .aload_n 0), (55, .getfield 510), (58, .bipush 20), (60, .iadd), (61, .iconst 1), (62, .isub), (63, .bipush 20), (65, .irem), (66, .putfield 510), (69, .aload_n 0), (70, .dup), (71, .getfield 349), (74, .iconst 1), (75, .isub), (76, .putfield 349), (79, .iconst 1), (80, .ireturn)])
/-- LockOrchestraModel.seed(I)Z -/
def am_m289 : am_M := (12, false, 2, 2, (some .boolean), ⟨"LockOrchestraModel", "seed", "(I)Z"⟩, prog_14_method_85_code, [(0, .iload_n 1), (1, .ifCond .ge 15), (4, .aload_n 0), (5, .getfield 17), (8, .iconst 5), (9, .dup2), (10, .iaload), (11, .iconst 1), (12, .iadd), (13, .iastore), (14, .iconst 0), (15, .ireturn), (16, .aload_n 0), (17, .iload_n 1), (18, .i2l), (19, .putfield 142), (22, .iconst 1), (23, .ireturn)])
/-- LockOrchestraModel.play(I)I -/
def am_m290 : am_M := (12, false, 2, 2, (some .int), ⟨"LockOrchestraModel", "play", "(I)I"⟩, prog_14_method_89_code, [(0, .iload_n 1), (1, .bipush 6), (3, .if_icmp .eq 11), (6, .aload_n 0), (7, .iload_n 1), (8, .invokevirtual 421), (11, .ifCond .eq 11), (14, .aload_n 0), (15, .iload_n 1), (16, .invokevirtual 426), (19, .ifCond .ne 9), (22, .aload_n 0), (23, .iconst 2), (24, .invokevirtual 442), (27, .ireturn), (28, .aload_n 0), (29, .invokevirtual 524), (32, .aload_n 0), (33, .iload_n 1), (34, .invokevirtual 527), (37, .aload_n 0), (38, .invokevirtual 408), (41, .ireturn)])
/-- LockOrchestraModel.keeps()V -/
def am_m291 : am_M := (12, false, 1, 2, none, ⟨"LockOrchestraModel", "keeps", "()V"⟩, prog_14_method_83_code, [(0, .aload_n 0), (1, .aload_n 0), (2, .getfield 510), (5, .iconst 1), (6, .iadd), (7, .bipush 20), (9, .irem), (10, .putfield 510), (13, .iconst 0), (14, .istore_n 1), (15, .iload_n 1), (16, .bipush 127), (18, .if_icmp .ge 29), (21, .aload_n 0), (22, .getfield 139), (25, .bipush 127), (27, .aload_n 0), (28, .getfield 510), (31, .imul), (32, .iload_n 1), (33, .iadd), (34, .aload_n 0), (35, .getfield 109), (38, .iload_n 1), (39, .iaload), (40, .iastore), (41, .iinc 1 1), (44, .goto (-29)), (47, .aload_n 0), (48, .getfield 349), (51, .bipush 20), (53, .if_icmp .ge 13), (56, .aload_n 0), (57, .dup), (58, .getfield 349), (61, .iconst 1), (62, .iadd), (63, .putfield 349), (66, .return_)])
/-- LockOrchestraModel.isPlayed(I)V -/
def am_m292 : am_M := (12, false, 2, 3, none, ⟨"LockOrchestraModel", "isPlayed", "(I)V"⟩, prog_14_method_88_code, [(0, .aload_n 0), (1, .invokevirtual 408), (4, .istore_n 2), (5, .aload_n 0), (6, .iload_n 1), (7, .invokevirtual 451), (10, .aload_n 0), (11, .getfield 109), (14, .iconst 0), (15, .iaload), (16, .sipush 9999), (19, .if_icmp .ge 13), (22, .aload_n 0), (23, .getfield 109), (26, .iconst 0), (27, .dup2), (28, .iaload), (29, .iconst 1), (30, .iadd), (31, .iastore), (32, .aload_n 0), (33, .iload_n 2), (34, .invokevirtual 521), (37, .return_)])
/-- LockOrchestraModel.keepsDoors(I)V -/
def am_m293 : am_M := (12, false, 2, 5, none, ⟨"LockOrchestraModel", "keepsDoors", "(I)V"⟩, prog_14_method_87_code, [(0, .aload_n 0), (1, .invokevirtual 408), (4, .istore_n 2), (5, .iconst 0), (6, .istore_n 3), (7, .iload_n 3), (8, .aload_n 0), (9, .invokevirtual 383), (12, .if_icmp .ge 134), (15, .iload_n 2), (16, .iload_n 1), (17, .ixor), (18, .iload_n 3), (19, .ishr), (20, .iconst 1), (21, .iand), (22, .ifCond .ne 6), (25, .goto 115), (28, .aload_n 0), (29, .getfield 109), (32, .bipush 6), (34, .iaload), (35, .bipush 40), (37, .if_icmp .ne 39), (40, .bipush 7), (42, .istore 4), (44, .iload 4), (46, .bipush 124), (48, .if_icmp .ge 25), (51, .aload_n 0), (52, .getfield 109), (55, .iload 4), (57, .aload_n 0), (58, .getfield 109), (61, .iload 4), (63, .iconst 3), (64, .iadd), (65, .iaload), (66, .iastore), (67, .iinc 4 1), (70, .goto (-26)), (73, .goto 14), (76, .aload_n 0), (77, .getfield 109), (80, .bipush 6), (82, .dup2), (83, .iaload), (84, .iconst 1), (85, .iadd), (86, .iastore), (87, .bipush 7), (89, .iconst 3), (90, .aload_n 0), (91, .getfield 109), (94, .bipush 6), (96, .iaload), (97, .imul), (98, .iadd), (99, .iconst 3), (100, .isub), (101, .istore 4), (103, .aload_n 0), (104, .getfield 109), (107, .iload 4), (109, .aload_n 0), (110, .getfield 109), (113, .iconst 0), (114, .iaload), (115, .iastore), (116, .aload_n 0), (117, .getfield 109), (120, .iload 4), (122, .iconst 1), (123, .iadd), (124, .iload_n 3), (125, .iastore), (126, .aload_n 0), (127, .getfield 109), (130, .iload 4), (132, .iconst 2), (133, .iadd), (134, .iload_n 2), (135, .iload_n 3), (136, .ishr), (137, .iconst 1), (138, .iand), (139, .iastore), (140, .iinc 3 1), (143, .goto (-136)), (146, .return_)])
/-- LockOrchestraModel.piece()I -/
def am_m294 : am_M := (12, false, 1, 2, (some .int), ⟨"LockOrchestraModel", "piece", "()I"⟩, prog_14_method_90_code, [(0, .aload_n 0), (1, .iconst 1), (2, .invokevirtual 439), (5, .ifCond .ne 9), (8, .aload_n 0), (9, .iconst 2), (10, .invokevirtual 442), (13, .ireturn), (14, .aload_n 0), (15, .invokevirtual 524), (18, .iconst 0), (19, .istore_n 1), (20, .iload_n 1), (21, .aload_n 0), (22, .getfield 436), (25, .if_icmp .ge 32), (28, .aload_n 0), (29, .aload_n 0), (30, .getfield 115), (33, .iload_n 1), (34, .iaload), (35, .invokevirtual 426), (38, .ifCond .eq 19), (41, .aload_n 0), (42, .aload_n 0), (43, .getfield 115), (46, .iload_n 1), (47, .iaload), (48, .invokevirtual 527), (51, .iinc 1 1), (54, .goto (-34)), (57, .iload_n 1), (58, .ireturn)])
/-- LockOrchestraModel.oil(I)Z -/
def am_m295 : am_M := (12, false, 2, 3, (some .boolean), ⟨"LockOrchestraModel", "oil", "(I)Z"⟩, prog_14_method_91_code, [(0, .aload_n 0), (1, .iload_n 1), (2, .invokevirtual 415), (5, .ifCond .eq 11), (8, .aload_n 0), (9, .iload_n 1), (10, .invokevirtual 395), (13, .ifCond .ne 15), (16, .aload_n 0), (17, .getfield 17), (20, .iconst 3), (21, .dup2), (22, .iaload), (23, .iconst 1), (24, .iadd), (25, .iastore), (26, .iconst 0), (27, .ireturn), (28, .aload_n 0), (29, .invokevirtual 524), (32, .aload_n 0), (33, .invokevirtual 408), (36, .istore_n 2), (37, .aload_n 0), (38, .getfield 109), (41, .iconst 5), (42, .dup2), (43, .iaload), (44, .iconst 1), (45, .iload_n 1), (46, .ishl), (47, .iconst (-1)), (48, .ixor), (49, .iand), (50, .iastore), (51, .aload_n 0), (52, .iload_n 2), (53, .invokevirtual 521), (56, .iconst 1), (57, .ireturn)])
/-- LockOrchestraModel.evening(I)I -/
def am_m296 : am_M := (12, false, 2, 6, (some .int), ⟨"LockOrchestraModel", "evening", "(I)I"⟩, prog_14_method_92_code, [(0, .iload_n 1), (1, .i2l), (2, .lconst 1), (3, .ldc2_w 530), (6, .invokestatic 258), (9, .ifCond .eq 10), (12, .aload_n 0), (13, .invokevirtual 405), (16, .ifCond .ne 9), (19, .aload_n 0), (20, .iconst 3), (21, .invokevirtual 442), (24, .ireturn), (25, .aload_n 0), (26, .invokevirtual 524), (29, .iconst 0), (30, .istore_n 2), (31, .iconst 0), (32, .istore_n 3), (33, .iload_n 3), (34, .iload_n 1), (35, .if_icmp .ge 85), (38, .aload_n 0), (39, .aload_n 0), (40, .invokevirtual 405), (43, .invokevirtual 532), (46, .istore 4), (48, .aload_n 0), (49, .iload 4), (51, .invokevirtual 426), (54, .istore 5), (56, .aload_n 0), (57, .iload 5), (59, .ifCond .eq 8), (62, .iload 4), (64, .goto 5), (67, .bipush 6), (69, .invokevirtual 527), (72, .iload 5), (74, .ifCond .eq 6), (77, .iinc 2 1), (80, .aload_n 0), (81, .bipush 100), (83, .invokevirtual 532), (86, .aload_n 0), (87, .getfield 97), (90, .iconst 1), (91, .iaload), (92, .if_icmp .ge 22), (95, .aload_n 0), (96, .getfield 109), (99, .iconst 5), (100, .dup2), (101, .iaload), (102, .iconst 1), (103, .aload_n 0), (104, .aload_n 0), (105, .invokevirtual 389), (108, .invokevirtual 532), (111, .ishl), (112, .ior), (113, .iastore), (114, .iinc 3 1), (117, .goto (-84)), (120, .iload_n 2), (121, .ireturn)])
/-- LockOrchestraModel.drawOf(I)I -/
def am_m297 : am_M := (12, false, 2, 2, (some .int), ⟨"LockOrchestraModel", "drawOf", "(I)I"⟩, prog_14_method_86_code, [(0, .aload_n 0), (1, .ldc2_w 513), (4, .aload_n 0), (5, .getfield 142), (8, .lmul), (9, .ldc2_w 515), (12, .ladd), (13, .ldc2_w 517), (16, .lrem), (17, .putfield 142), (20, .aload_n 0), (21, .getfield 142), (24, .ldc2_w 519), (27, .ldiv), (28, .iload_n 1), (29, .i2l), (30, .lrem), (31, .l2i), (32, .ireturn)])
/-- LockOrchestraModel.ask()J -/
def am_m298 : am_M := (12, false, 1, 3, (some .long), ⟨"LockOrchestraModel", "ask", "()J"⟩, prog_14_method_121_code, [(0, .aload_n 0), (1, .aload_n 0), (2, .getfield 215), (5, .putfield 227), (8, .aload_n 0), (9, .iconst 0), (10, .putfield 215), (13, .aload_n 0), (14, .iconst 0), (15, .putfield 224), (18, .aload_n 0), (19, .iconst (-1)), (20, .putfield 238), (23, .aload_n 0), (24, .iconst 0), (25, .putfield 218), (28, .aload_n 0), (29, .iconst (-1)), (30, .putfield 221), (33, .aload_n 0), (34, .iconst 0), (35, .putfield 273), (38, .aload_n 0), (39, .iconst 0), (40, .putfield 303), (43, .aload_n 0), (44, .iconst 0), (45, .putfield 306), (48, .aload_n 0), (49, .iconst 0), (50, .putfield 309), (53, .aload_n 0), (54, .iconst 0), (55, .putfield 312), (58, .aload_n 0), (59, .invokevirtual 608), (62, .istore_n 1), (63, .aload_n 0), (64, .getfield 218), (67, .ifCond .ne 15), (70, .iload_n 1), (71, .iconst 3), (72, .if_icmp .ge 10), (75, .aload_n 0), (76, .invokevirtual 315), (79, .goto 14), (82, .aload_n 0), (83, .getfield 218), (86, .ifCond .ne 7), (89, .aload_n 0), (90, .invokevirtual 577), (93, .aload_n 0), (94, .getfield 218), (97, .ifCond .ne 20), (100, .aload_n 0), (101, .invokevirtual 230), (104, .iconst (-1)), (105, .if_icmp .eq 12), (108, .aload_n 0), (109, .iconst 1), (110, .aload_n 0), (111, .getfield 224), (114, .invokevirtual 248), (117, .aload_n 0), (118, .aload_n 0), (119, .getfield 218), (122, .putfield 343), (125, .aload_n 0), (126, .aload_n 0), (127, .getfield 221), (130, .putfield 13), (133, .aload_n 0), (134, .getfield 218), (137, .ifCond .eq 7), (140, .ldc2_w 611), (143, .lreturn), (144, .aload_n 0), (145, .iload_n 1), (146, .iconst 2), (147, .if_icmp .ge 9), (150, .ldc2_w 600), (153, .goto 4), (156, .lconst 0), (157, .putfield 602), (160, .aload_n 0), (161, .iconst 1), (162, .putfield 605), (165, .iconst 0), (166, .istore_n 2), (167, .iload_n 2), (168, .aload_n 0), (169, .invokevirtual 389), (172, .if_icmp .ge 20), (175, .aload_n 0), (176, .iload_n 1), (177, .aload_n 0), (178, .iload_n 2), (179, .invokevirtual 613), (182, .iload_n 2), (183, .invokevirtual 617), (186, .iinc 2 1), (189, .goto (-22)), (192, .aload_n 0), (193, .getfield 602), (196, .lreturn)])
/-- LockOrchestraModel.qKind()I -/
def am_m299 : am_M := (12, false, 1, 2, (some .int), ⟨"LockOrchestraModel", "qKind", "()I"⟩, prog_14_method_119_code, [(0, .aload_n 0), (1, .aload_n 0), (2, .getfield 146), (5, .invokevirtual 245), (8, .ifCond .eq 7), (11, .iconst 0), (12, .goto 64), (15, .aload_n 0), (16, .aload_n 0), (17, .getfield 149), (20, .invokevirtual 245), (23, .ifCond .eq 7), (26, .iconst 1), (27, .goto 49), (30, .aload_n 0), (31, .aload_n 0), (32, .getfield 152), (35, .invokevirtual 245), (38, .ifCond .eq 7), (41, .iconst 2), (42, .goto 34), (45, .aload_n 0), (46, .aload_n 0), (47, .getfield 155), (50, .invokevirtual 245), (53, .ifCond .eq 7), (56, .iconst 3), (57, .goto 19), (60, .aload_n 0), (61, .aload_n 0), (62, .getfield 158), (65, .invokevirtual 245), (68, .ifCond .eq 7), (71, .iconst 4), (72, .goto 4), (75, .iconst 5), (76, .istore_n 1), (77, .iload_n 1), (78, .iconst 5), (79, .if_icmp .ne 11), (82, .aload_n 0), (83, .aload_n 0), (84, .getfield 161), (87, .invokevirtual 292), (90, .iload_n 1), (91, .ireturn)])
/-- LockOrchestraModel.qTold(I)J -/
def am_m300 : am_M := (12, false, 2, 4, (some .long), ⟨"LockOrchestraModel", "qTold", "(I)J"⟩, prog_14_method_118_code, [(0, .aload_n 0), (1, .iconst 0), (2, .putfield 361), (5, .iconst 0), (6, .istore_n 2), (7, .iload_n 2), (8, .aload_n 0), (9, .getfield 303), (12, .if_icmp .ge 156), (15, .aload_n 0), (16, .getfield 203), (19, .iload_n 2), (20, .iaload), (21, .istore_n 3), (22, .iload_n 3), (23, .sipush 1000), (26, .if_icmp .lt 16), (29, .aload_n 0), (30, .iload_n 3), (31, .sipush 1000), (34, .isub), (35, .i2l), (36, .invokevirtual 364), (39, .goto 123), (42, .iload_n 3), (43, .bipush 60), (45, .if_icmp .lt 40), (48, .aload_n 0), (49, .getfield 209), (52, .aload_n 0), (53, .getfield 361), (56, .iconst 1), (57, .isub), (58, .aload_n 0), (59, .iload_n 3), (60, .bipush 60), (62, .isub), (63, .aload_n 0), (64, .getfield 209), (67, .aload_n 0), (68, .getfield 361), (71, .iconst 1), (72, .isub), (73, .laload), (74, .iload_n 1), (75, .invokevirtual 368), (78, .invokestatic 372), (81, .lastore), (82, .goto 80), (85, .iload_n 3), (86, .bipush 40), (88, .if_icmp .lt 22), (91, .aload_n 0), (92, .aload_n 0), (93, .iload_n 3), (94, .bipush 40), (96, .isub), (97, .iload_n 1), (98, .invokevirtual 376), (101, .invokestatic 372), (104, .invokevirtual 364), (107, .goto 55), (110, .iload_n 3), (111, .bipush 13), (113, .if_icmp .ne 11), (116, .aload_n 0), (117, .lconst 1), (118, .invokevirtual 364), (121, .goto 41), (124, .iload_n 3), (125, .bipush 12), (127, .if_icmp .ne 30), (130, .aload_n 0), (131, .getfield 209), (134, .aload_n 0), (135, .getfield 361), (138, .iconst 1), (139, .isub), (140, .lconst 1), (141, .aload_n 0), (142, .getfield 209), (145, .aload_n 0), (146, .getfield 361), (149, .iconst 1), (150, .isub), (151, .laload), (152, .lsub), (153, .lastore), (154, .goto 8), (157, .aload_n 0), (158, .iload_n 3), (159, .invokevirtual 380), (162, .iinc 2 1), (165, .goto (-158)), (168, .aload_n 0), (169, .getfield 209), (172, .iconst 0), (173, .laload), (174, .lreturn)])
/-- LockOrchestraModel.qTakes(IJI)V -/
def am_m301 : am_M := (12, false, 4, 6, none, ⟨"LockOrchestraModel", "qTakes", "(IJI)V"⟩, prog_14_method_120_code, [(0, .iload_n 1), (1, .iconst 3), (2, .if_icmp .ge 13), (5, .lload_n 2), (6, .lconst 1), (7, .lcmp), (8, .ifCond .ne 7), (11, .iconst 1), (12, .goto 4), (15, .iconst 0), (16, .istore 5), (18, .iload_n 1), (19, .ifCond .ne 19), (22, .iload 5), (24, .ifCond .eq 14), (27, .aload_n 0), (28, .getfield 602), (31, .ldc2_w 600), (34, .lcmp), (35, .ifCond .eq 13), (38, .iload_n 1), (39, .iconst 1), (40, .if_icmp .ne 15), (43, .iload 5), (45, .ifCond .eq 10), (48, .aload_n 0), (49, .iload 4), (51, .i2l), (52, .putfield 602), (55, .iload_n 1), (56, .iconst 2), (57, .if_icmp .ne 18), (60, .iload 5), (62, .ifCond .eq 13), (65, .aload_n 0), (66, .dup), (67, .getfield 602), (70, .lconst 1), (71, .ladd), (72, .putfield 602), (75, .iload_n 1), (76, .iconst 3), (77, .if_icmp .ne 13), (80, .aload_n 0), (81, .dup), (82, .getfield 602), (85, .lload_n 2), (86, .ladd), (87, .putfield 602), (90, .iload_n 1), (91, .iconst 3), (92, .if_icmp .le 41), (95, .aload_n 0), (96, .getfield 605), (99, .ifCond .ne 29), (102, .iload_n 1), (103, .iconst 4), (104, .if_icmp .ne 15), (107, .lload_n 2), (108, .aload_n 0), (109, .getfield 602), (112, .lcmp), (113, .ifCond .le 20), (116, .goto 12), (119, .lload_n 2), (120, .aload_n 0), (121, .getfield 602), (124, .lcmp), (125, .ifCond .ge 8), (128, .aload_n 0), (129, .lload_n 2), (130, .putfield 602), (133, .aload_n 0), (134, .iconst 0), (135, .putfield 605), (138, .return_)])
/-- LockOrchestraModel.image()I -/
def am_m302 : am_M := (12, false, 1, 2, (some .int), ⟨"LockOrchestraModel", "image", "()I"⟩, prog_14_method_124_code, [(0, .aload_n 0), (1, .iconst 0), (2, .putfield 621), (5, .aload_n 0), (6, .aload_n 0), (7, .getfield 109), (10, .iconst 0), (11, .iaload), (12, .sipush 256), (15, .idiv), (16, .invokevirtual 624), (19, .aload_n 0), (20, .aload_n 0), (21, .getfield 109), (24, .iconst 0), (25, .iaload), (26, .sipush 256), (29, .irem), (30, .invokevirtual 624), (33, .iconst 0), (34, .istore_n 1), (35, .iload_n 1), (36, .aload_n 0), (37, .invokevirtual 389), (40, .if_icmp .ge 35), (43, .aload_n 0), (44, .aload_n 0), (45, .iload_n 1), (46, .invokevirtual 398), (49, .invokevirtual 624), (52, .aload_n 0), (53, .aload_n 0), (54, .iload_n 1), (55, .invokevirtual 395), (58, .ifCond .eq 7), (61, .iconst 1), (62, .goto 4), (65, .iconst 0), (66, .invokevirtual 624), (69, .iinc 1 1), (72, .goto (-37)), (75, .aload_n 0), (76, .aload_n 0), (77, .getfield 212), (80, .aload_n 0), (81, .getfield 621), (84, .invokestatic 627), (87, .invokevirtual 624), (90, .aload_n 0), (91, .getfield 621), (94, .ireturn)])
/-- LockOrchestraModel.writes(I)V -/
def am_m303 : am_M := (12, false, 2, 2, none, ⟨"LockOrchestraModel", "writes", "(I)V"⟩, prog_14_method_123_code, [(0, .aload_n 0), (1, .getfield 212), (4, .aload_n 0), (5, .getfield 621), (8, .iload_n 1), (9, .iastore), (10, .aload_n 0), (11, .dup), (12, .getfield 621), (15, .iconst 1), (16, .iadd), (17, .putfield 621), (20, .return_)])
/-- LockOrchestraModel.checked([II)I -/
def am_m304 : am_M := (12, false, 2, 4, (some .int), ⟨"LockOrchestraModel", "checked", "([II)I"⟩, prog_14_method_122_code, [(0, .bipush 11), (2, .istore_n 2), (3, .iconst 0), (4, .istore_n 3), (5, .iload_n 3), (6, .iload_n 1), (7, .if_icmp .ge 21), (10, .iconst 3), (11, .iload_n 2), (12, .imul), (13, .aload_n 0), (14, .iload_n 3), (15, .iaload), (16, .iadd), (17, .sipush 251), (20, .irem), (21, .istore_n 2), (22, .iinc 3 1), (25, .goto (-20)), (28, .iload_n 2), (29, .ireturn)])
/-- LockOrchestraModel.octet(I)I -/
def am_m305 : am_M := (12, false, 2, 2, (some .int), ⟨"LockOrchestraModel", "octet", "(I)I"⟩, prog_14_method_125_code, [(0, .iload_n 1), (1, .ifCond .lt 20), (4, .iload_n 1), (5, .aload_n 0), (6, .getfield 621), (9, .if_icmp .ge 12), (12, .aload_n 0), (13, .getfield 212), (16, .iload_n 1), (17, .iaload), (18, .goto 4), (21, .iconst (-1)), (22, .ireturn)])
/-- LockOrchestraModel.on()Z -/
def am_m306 : am_M := (12, false, 1, 3, (some .boolean), ⟨"LockOrchestraModel", "on", "()Z"⟩, prog_14_method_127_code, [(0, .aload_n 0), (1, .getfield 215), (4, .istore_n 1), (5, .aload_n 0), (6, .iconst 0), (7, .putfield 215), (10, .aload_n 0), (11, .iload_n 1), (12, .invokevirtual 631), (15, .ifCond .ne 15), (18, .aload_n 0), (19, .getfield 17), (22, .iconst 5), (23, .dup2), (24, .iaload), (25, .iconst 1), (26, .iadd), (27, .iastore), (28, .iconst 0), (29, .ireturn), (30, .aload_n 0), (31, .getfield 109), (34, .iconst 0), (35, .sipush 256), (38, .aload_n 0), (39, .getfield 7), (42, .iconst 0), (43, .iaload), (44, .imul), (45, .aload_n 0), (46, .getfield 7), (49, .iconst 1), (50, .iaload), (51, .iadd), (52, .iastore), (53, .aload_n 0), (54, .getfield 109), (57, .iconst 5), (58, .iconst 0), (59, .iastore), (60, .iconst 0), (61, .istore_n 2), (62, .iload_n 2), (63, .aload_n 0), (64, .invokevirtual 389), (67, .if_icmp .ge 48), (70, .aload_n 0), (71, .getfield 109), (74, .iconst 1), (75, .iload_n 2), (76, .iadd), (77, .aload_n 0), (78, .getfield 7), (81, .iconst 2), (82, .iconst 2), (83, .iload_n 2), (84, .imul), (85, .iadd), (86, .iaload), (87, .iastore), (88, .aload_n 0), (89, .getfield 109), (92, .iconst 5), (93, .dup2), (94, .iaload), (95, .aload_n 0), (96, .getfield 7), (99, .iconst 3), (100, .iconst 2), (101, .iload_n 2), (102, .imul), (103, .iadd), (104, .iaload), (105, .iload_n 2), (106, .ishl), (107, .ior), (108, .iastore), (109, .iinc 2 1), (112, .goto (-50)), (115, .aload_n 0), (116, .getfield 109), (119, .bipush 6), (121, .iconst 0), (122, .iastore), (123, .aload_n 0), (124, .iconst 0), (125, .putfield 349), (128, .iconst 1), (129, .ireturn)])
/-- LockOrchestraModel.isImage(I)Z -/
def am_m307 : am_M := (12, false, 2, 3, (some .boolean), ⟨"LockOrchestraModel", "isImage", "(I)Z"⟩, prog_14_method_126_code, [(0, .iload_n 1), (1, .iconst 3), (2, .iconst 2), (3, .aload_n 0), (4, .invokevirtual 389), (7, .imul), (8, .iadd), (9, .if_icmp .ne 47), (12, .aload_n 0), (13, .getfield 7), (16, .iload_n 1), (17, .iconst 1), (18, .isub), (19, .iaload), (20, .aload_n 0), (21, .getfield 7), (24, .iload_n 1), (25, .iconst 1), (26, .isub), (27, .invokestatic 627), (30, .if_icmp .ne 26), (33, .sipush 256), (36, .aload_n 0), (37, .getfield 7), (40, .iconst 0), (41, .iaload), (42, .imul), (43, .aload_n 0), (44, .getfield 7), (47, .iconst 1), (48, .iaload), (49, .iadd), (50, .sipush 9999), (53, .if_icmp .le 5), (56, .iconst 0), (57, .ireturn), (58, .iconst 0), (59, .istore_n 2), (60, .iload_n 2), (61, .aload_n 0), (62, .invokevirtual 389), (65, .if_icmp .ge 43), (68, .aload_n 0), (69, .getfield 7), (72, .iconst 2), (73, .iconst 2), (74, .iload_n 2), (75, .imul), (76, .iadd), (77, .iaload), (78, .aload_n 0), (79, .iload_n 2), (80, .invokevirtual 402), (83, .if_icmp .ge 17), (86, .aload_n 0), (87, .getfield 7), (90, .iconst 3), (91, .iconst 2), (92, .iload_n 2), (93, .imul), (94, .iadd), (95, .iaload), (96, .iconst 1), (97, .if_icmp .le 5), (100, .iconst 0), (101, .ireturn), (102, .iinc 2 1), (105, .goto (-45)), (108, .iconst 1), (109, .ireturn)])
/-- LockOrchestraModel.status(I)I -/
def am_m308 : am_M := (12, false, 2, 2, (some .int), ⟨"LockOrchestraModel", "status", "(I)I"⟩, prog_14_method_128_code, [(0, .iload_n 1), (1, .i2l), (2, .lconst 0), (3, .ldc2_w 413), (6, .invokestatic 258), (9, .ifCond .eq 12), (12, .aload_n 0), (13, .getfield 17), (16, .iload_n 1), (17, .iaload), (18, .goto 4), (21, .iconst (-1)), (22, .ireturn)])
/-- java/lang/Integer.bitCount(I)I -/
def am_m309 : am_M := (14, false, 1, 1, (some .int), ⟨"java/lang/Integer", "bitCount", "(I)I"⟩, prog_15_method_49_code, [(0, .iload_n 0), (1, .iload_n 0), (2, .iconst 1), (3, .iushr), (4, .ldc_w 265), (7, .iand), (8, .isub), (9, .istore_n 0), (10, .iload_n 0), (11, .ldc_w 266), (14, .iand), (15, .iload_n 0), (16, .iconst 2), (17, .iushr), (18, .ldc_w 266), (21, .iand), (22, .iadd), (23, .istore_n 0), (24, .iload_n 0), (25, .iload_n 0), (26, .iconst 4), (27, .iushr), (28, .iadd), (29, .ldc_w 267), (32, .iand), (33, .istore_n 0), (34, .iload_n 0), (35, .iload_n 0), (36, .bipush 8), (38, .iushr), (39, .iadd), (40, .istore_n 0), (41, .iload_n 0), (42, .iload_n 0), (43, .bipush 16), (45, .iushr), (46, .iadd), (47, .istore_n 0), (48, .iload_n 0), (49, .bipush 63), (51, .iand), (52, .ireturn)])
/-- java/lang/Math.min(II)I -/
def am_m310 : am_M := (15, false, 2, 2, (some .int), ⟨"java/lang/Math", "min", "(II)I"⟩, prog_16_method_69_code, [(0, .iload_n 0), (1, .iload_n 1), (2, .if_icmp .gt 7), (5, .iload_n 0), (6, .goto 4), (9, .iload_n 1), (10, .ireturn)])
/-- java/lang/Math.max(II)I -/
def am_m311 : am_M := (15, false, 2, 2, (some .int), ⟨"java/lang/Math", "max", "(II)I"⟩, prog_16_method_65_code, [(0, .iload_n 0), (1, .iload_n 1), (2, .if_icmp .lt 7), (5, .iload_n 0), (6, .goto 4), (9, .iload_n 1), (10, .ireturn)])
/-- java/lang/Math.min(JJ)J -/
def am_m312 : am_M := (15, false, 2, 4, (some .long), ⟨"java/lang/Math", "min", "(JJ)J"⟩, prog_16_method_70_code, [(0, .lload_n 0), (1, .lload_n 2), (2, .lcmp), (3, .ifCond .gt 7), (6, .lload_n 0), (7, .goto 4), (10, .lload_n 2), (11, .lreturn)])
/-- java/lang/Math.max(JJ)J -/
def am_m313 : am_M := (15, false, 2, 4, (some .long), ⟨"java/lang/Math", "max", "(JJ)J"⟩, prog_16_method_66_code, [(0, .lload_n 0), (1, .lload_n 2), (2, .lcmp), (3, .ifCond .lt 7), (6, .lload_n 0), (7, .goto 4), (10, .lload_n 2), (11, .lreturn)])
/-- java/lang/Math.floorDiv(II)I -/
def am_m314 : am_M := (15, false, 2, 3, (some .int), ⟨"java/lang/Math", "floorDiv", "(II)I"⟩, prog_16_method_47_code, [(0, .iload_n 0), (1, .iload_n 1), (2, .idiv), (3, .istore_n 2), (4, .iload_n 0), (5, .iload_n 1), (6, .ixor), (7, .ifCond .ge 14), (10, .iload_n 2), (11, .iload_n 1), (12, .imul), (13, .iload_n 0), (14, .if_icmp .eq 7), (17, .iload_n 2), (18, .iconst 1), (19, .isub), (20, .ireturn), (21, .iload_n 2), (22, .ireturn)])
/-- java/lang/String.length()I -/
def am_m315 : am_M := (16, false, 1, 1, (some .int), ⟨"java/lang/String", "length", "()I"⟩, prog_17_method_54_code, [(0, .aload_n 0), (1, .getfield 9), (4, .arraylength), (5, .aload_n 0), (6, .invokevirtual 335), (9, .ishr), (10, .ireturn)])
/-- java/lang/String.coder()B -/
def am_m316 : am_M := (16, false, 1, 1, (some .byte), ⟨"java/lang/String", "coder", "()B"⟩, prog_17_method_152_code, [(0, .getstatic 38), (3, .ifCond .eq 10), (6, .aload_n 0), (7, .getfield 15), (10, .goto 4), (13, .iconst 1), (14, .ireturn)])
/-- java/lang/String.charAt(I)C -/
def am_m317 : am_M := (16, false, 2, 2, (some .char), ⟨"java/lang/String", "charAt", "(I)C"⟩, prog_17_method_56_code, [(0, .aload_n 0), (1, .invokevirtual 492), (4, .ifCond .eq 12), (7, .aload_n 0), (8, .getfield 9), (11, .iload_n 1), (12, .invokestatic 495), (15, .ireturn), (16, .aload_n 0), (17, .getfield 9), (20, .iload_n 1), (21, .invokestatic 498), (24, .ireturn)])
/-- java/lang/String.isLatin1()Z -/
def am_m318 : am_M := (16, false, 1, 1, (some .boolean), ⟨"java/lang/String", "isLatin1", "()Z"⟩, prog_17_method_154_code, [(0, .getstatic 38), (3, .ifCond .eq 14), (6, .aload_n 0), (7, .getfield 15), (10, .ifCond .ne 7), (13, .iconst 1), (14, .goto 4), (17, .iconst 0), (18, .ireturn)])
/-- java/lang/StringLatin1.charAt([BI)C -/
def am_m319 : am_M := (17, false, 2, 2, (some .char), ⟨"java/lang/StringLatin1", "charAt", "([BI)C"⟩, prog_18_method_2_code, [(0, .iload_n 1), (1, .aload_n 0), (2, .arraylength), (3, .invokestatic 9), (6, .aload_n 0), (7, .iload_n 1), (8, .baload), (9, .sipush 255), (12, .iand), (13, .i2c), (14, .ireturn)])
/-- java/util/Arrays.fill([II)V -/
def am_m320 : am_M := (18, false, 2, 4, none, ⟨"java/util/Arrays", "fill", "([II)V"⟩, prog_21_method_103_code, [(0, .iconst 0), (1, .istore_n 2), (2, .aload_n 0), (3, .arraylength), (4, .istore_n 3), (5, .iload_n 2), (6, .iload_n 3), (7, .if_icmp .ge 13), (10, .aload_n 0), (11, .iload_n 2), (12, .iload_n 1), (13, .iastore), (14, .iinc 2 1), (17, .goto (-12)), (20, .return_)])
/-- LockOrchestraLaw.law([I)Z -/
def am_mL : am_M := (13, false, 1, 4, (some .boolean), ⟨"LockOrchestraLaw", "law", "([I)Z"⟩, code, [(0, .new 7), (3, .dup), (4, .invokespecial 9), (7, .astore_n 1), (8, .new 10), (11, .dup), (12, .invokespecial 12), (15, .astore_n 2), (16, .iconst 0), (17, .istore_n 3), (18, .iload_n 3), (19, .aload_n 0), (20, .arraylength), (21, .bipush 6), (23, .isub), (24, .if_icmp .gt 949), (27, .aload_n 0), (28, .iload_n 3), (29, .iaload), (30, .bipush 63), (32, .iand), (33, .tableswitch 934 0 33 #[151, 214, 237, 250, 273, 296, 339, 372, 405, 428, 451, 484, 497, 520, 553, 576, 589, 612, 625, 648, 671, 684, 707, 730, 753, 766, 789, 812, 825, 848, 862, 875, 898, 911]), (184, .aload_n 1), (185, .aload_n 0), (186, .iload_n 3), (187, .iconst 1), (188, .iadd), (189, .iaload), (190, .aload_n 0), (191, .iload_n 3), (192, .iconst 2), (193, .iadd), (194, .iaload), (195, .aload_n 0), (196, .iload_n 3), (197, .iconst 3), (198, .iadd), (199, .iaload), (200, .aload_n 0), (201, .iload_n 3), (202, .iconst 4), (203, .iadd), (204, .iaload), (205, .aload_n 0), (206, .iload_n 3), (207, .iconst 5), (208, .iadd), (209, .iaload), (210, .invokevirtual 13), (213, .aload_n 2), (214, .aload_n 0), (215, .iload_n 3), (216, .iconst 1), (217, .iadd), (218, .iaload), (219, .aload_n 0), (220, .iload_n 3), (221, .iconst 2), (222, .iadd), (223, .iaload), (224, .aload_n 0), (225, .iload_n 3), (226, .iconst 3), (227, .iadd), (228, .iaload), (229, .aload_n 0), (230, .iload_n 3), (231, .iconst 4), (232, .iadd), (233, .iaload), (234, .aload_n 0), (235, .iload_n 3), (236, .iconst 5), (237, .iadd), (238, .iaload), (239, .invokevirtual 17), (242, .if_icmp .eq 725), (245, .iconst 0), (246, .ireturn), (247, .aload_n 1), (248, .aload_n 0), (249, .iload_n 3), (250, .iconst 1), (251, .iadd), (252, .iaload), (253, .invokevirtual 18), (256, .aload_n 2), (257, .aload_n 0), (258, .iload_n 3), (259, .iconst 1), (260, .iadd), (261, .iaload), (262, .invokevirtual 22), (265, .if_icmp .eq 702), (268, .iconst 0), (269, .ireturn), (270, .aload_n 1), (271, .invokevirtual 23), (274, .aload_n 2), (275, .invokevirtual 27), (278, .if_icmp .eq 689), (281, .iconst 0), (282, .ireturn), (283, .aload_n 1), (284, .aload_n 0), (285, .iload_n 3), (286, .iconst 1), (287, .iadd), (288, .iaload), (289, .invokevirtual 28), (292, .aload_n 2), (293, .aload_n 0), (294, .iload_n 3), (295, .iconst 1), (296, .iadd), (297, .iaload), (298, .invokevirtual 32), (301, .if_icmp .eq 666), (304, .iconst 0), (305, .ireturn), (306, .aload_n 1), (307, .aload_n 0), (308, .iload_n 3), (309, .iconst 1), (310, .iadd), (311, .iaload), (312, .invokevirtual 33), (315, .aload_n 2), (316, .aload_n 0), (317, .iload_n 3), (318, .iconst 1), (319, .iadd), (320, .iaload), (321, .invokevirtual 36), (324, .if_icmp .eq 643), (327, .iconst 0), (328, .ireturn), (329, .aload_n 1), (330, .aload_n 0), (331, .iload_n 3), (332, .iconst 1), (333, .iadd), (334, .iaload), (335, .aload_n 0), (336, .iload_n 3), (337, .iconst 2), (338, .iadd), (339, .iaload), (340, .aload_n 0), (341, .iload_n 3), (342, .iconst 3), (343, .iadd), (344, .iaload), (345, .invokevirtual 37), (348, .aload_n 2), (349, .aload_n 0), (350, .iload_n 3), (351, .iconst 1), (352, .iadd), (353, .iaload), (354, .aload_n 0), (355, .iload_n 3), (356, .iconst 2), (357, .iadd), (358, .iaload), (359, .aload_n 0), (360, .iload_n 3), (361, .iconst 3), (362, .iadd), (363, .iaload), (364, .invokevirtual 41), (367, .if_icmp .eq 600), (370, .iconst 0), (371, .ireturn), (372, .aload_n 1), (373, .aload_n 0), (374, .iload_n 3), (375, .iconst 1), (376, .iadd), (377, .iaload), (378, .aload_n 0), (379, .iload_n 3), (380, .iconst 2), (381, .iadd), (382, .iaload), (383, .invokevirtual 42), (386, .aload_n 2), (387, .aload_n 0), (388, .iload_n 3), (389, .iconst 1), (390, .iadd), (391, .iaload), (392, .aload_n 0), (393, .iload_n 3), (394, .iconst 2), (395, .iadd), (396, .iaload), (397, .invokevirtual 46), (400, .if_icmp .eq 567), (403, .iconst 0), (404, .ireturn), (405, .aload_n 1), (406, .aload_n 0), (407, .iload_n 3), (408, .iconst 1), (409, .iadd), (410, .iaload), (411, .aload_n 0), (412, .iload_n 3), (413, .iconst 2), (414, .iadd), (415, .iaload), (416, .invokevirtual 47), (419, .aload_n 2), (420, .aload_n 0), (421, .iload_n 3), (422, .iconst 1), (423, .iadd), (424, .iaload), (425, .aload_n 0), (426, .iload_n 3), (427, .iconst 2), (428, .iadd), (429, .iaload), (430, .invokevirtual 50), (433, .if_icmp .eq 534), (436, .iconst 0), (437, .ireturn), (438, .aload_n 1), (439, .aload_n 0), (440, .iload_n 3), (441, .iconst 1), (442, .iadd), (443, .iaload), (444, .invokevirtual 51), (447, .aload_n 2), (448, .aload_n 0), (449, .iload_n 3), (450, .iconst 1), (451, .iadd), (452, .iaload), (453, .invokevirtual 54), (456, .if_icmp .eq 511), (459, .iconst 0), (460, .ireturn), (461, .aload_n 1), (462, .aload_n 0), (463, .iload_n 3), (464, .iconst 1), (465, .iadd), (466, .iaload), (467, .invokevirtual 55), (470, .aload_n 2), (471, .aload_n 0), (472, .iload_n 3), (473, .iconst 1), (474, .iadd), (475, .iaload), (476, .invokevirtual 58), (479, .if_icmp .eq 488), (482, .iconst 0), (483, .ireturn), (484, .aload_n 1), (485, .aload_n 0), (486, .iload_n 3), (487, .iconst 1), (488, .iadd), (489, .iaload), (490, .aload_n 0), (491, .iload_n 3), (492, .iconst 2), (493, .iadd), (494, .iaload), (495, .invokevirtual 59), (498, .aload_n 2), (499, .aload_n 0), (500, .iload_n 3), (501, .iconst 1), (502, .iadd), (503, .iaload), (504, .aload_n 0), (505, .iload_n 3), (506, .iconst 2), (507, .iadd), (508, .iaload), (509, .invokevirtual 62), (512, .if_icmp .eq 455), (515, .iconst 0), (516, .ireturn), (517, .aload_n 1), (518, .invokevirtual 63), (521, .aload_n 2), (522, .invokevirtual 66), (525, .if_icmp .eq 442), (528, .iconst 0), (529, .ireturn), (530, .aload_n 1), (531, .aload_n 0), (532, .iload_n 3), (533, .iconst 1), (534, .iadd), (535, .iaload), (536, .invokevirtual 67), (539, .aload_n 2), (540, .aload_n 0), (541, .iload_n 3), (542, .iconst 1), (543, .iadd), (544, .iaload), (545, .invokevirtual 70), (548, .if_icmp .eq 419), (551, .iconst 0), (552, .ireturn), (553, .aload_n 1), (554, .aload_n 0), (555, .iload_n 3), (556, .iconst 1), (557, .iadd), (558, .iaload), (559, .aload_n 0), (560, .iload_n 3), (561, .iconst 2), (562, .iadd), (563, .iaload), (564, .invokevirtual 71), (567, .aload_n 2), (568, .aload_n 0), (569, .iload_n 3), (570, .iconst 1), (571, .iadd), (572, .iaload), (573, .aload_n 0), (574, .iload_n 3), (575, .iconst 2), (576, .iadd), (577, .iaload), (578, .invokevirtual 74), (581, .if_icmp .eq 386), (584, .iconst 0), (585, .ireturn), (586, .aload_n 1), (587, .aload_n 0), (588, .iload_n 3), (589, .iconst 1), (590, .iadd), (591, .iaload), (592, .invokevirtual 75), (595, .aload_n 2), (596, .aload_n 0), (597, .iload_n 3), (598, .iconst 1), (599, .iadd), (600, .iaload), (601, .invokevirtual 78), (604, .if_icmp .eq 363), (607, .iconst 0), (608, .ireturn), (609, .aload_n 1), (610, .invokevirtual 79), (613, .aload_n 2), (614, .invokevirtual 82), (617, .if_icmp .eq 350), (620, .iconst 0), (621, .ireturn), (622, .aload_n 1), (623, .aload_n 0), (624, .iload_n 3), (625, .iconst 1), (626, .iadd), (627, .iaload), (628, .invokevirtual 83), (631, .aload_n 2), (632, .aload_n 0), (633, .iload_n 3), (634, .iconst 1), (635, .iadd), (636, .iaload), (637, .invokevirtual 86), (640, .if_icmp .eq 327), (643, .iconst 0), (644, .ireturn), (645, .aload_n 1), (646, .invokevirtual 87), (649, .aload_n 2), (650, .invokevirtual 90), (653, .if_icmp .eq 314), (656, .iconst 0), (657, .ireturn), (658, .aload_n 1), (659, .aload_n 0), (660, .iload_n 3), (661, .iconst 1), (662, .iadd), (663, .iaload), (664, .invokevirtual 91), (667, .aload_n 2), (668, .aload_n 0), (669, .iload_n 3), (670, .iconst 1), (671, .iadd), (672, .iaload), (673, .invokevirtual 94), (676, .if_icmp .eq 291), (679, .iconst 0), (680, .ireturn), (681, .aload_n 1), (682, .aload_n 0), (683, .iload_n 3), (684, .iconst 1), (685, .iadd), (686, .iaload), (687, .invokevirtual 95), (690, .aload_n 2), (691, .aload_n 0), (692, .iload_n 3), (693, .iconst 1), (694, .iadd), (695, .iaload), (696, .invokevirtual 98), (699, .if_icmp .eq 268), (702, .iconst 0), (703, .ireturn), (704, .aload_n 1), (705, .invokevirtual 99), (708, .aload_n 2), (709, .invokevirtual 102), (712, .if_icmp .eq 255), (715, .iconst 0), (716, .ireturn), (717, .aload_n 1), (718, .aload_n 0), (719, .iload_n 3), (720, .iconst 1), (721, .iadd), (722, .iaload), (723, .invokevirtual 103), (726, .aload_n 2), (727, .aload_n 0), (728, .iload_n 3), (729, .iconst 1), (730, .iadd), (731, .iaload), (732, .invokevirtual 106), (735, .if_icmp .eq 232), (738, .iconst 0), (739, .ireturn), (740, .aload_n 1), (741, .aload_n 0), (742, .iload_n 3), (743, .iconst 1), (744, .iadd), (745, .iaload), (746, .invokevirtual 107), (749, .aload_n 2), (750, .aload_n 0), (751, .iload_n 3), (752, .iconst 1), (753, .iadd), (754, .iaload), (755, .invokevirtual 110), (758, .if_icmp .eq 209), (761, .iconst 0), (762, .ireturn), (763, .aload_n 1), (764, .aload_n 0), (765, .iload_n 3), (766, .iconst 1), (767, .iadd), (768, .iaload), (769, .invokevirtual 111), (772, .aload_n 2), (773, .aload_n 0), (774, .iload_n 3), (775, .iconst 1), (776, .iadd), (777, .iaload), (778, .invokevirtual 114), (781, .if_icmp .eq 186), (784, .iconst 0), (785, .ireturn), (786, .aload_n 1), (787, .invokevirtual 115), (790, .aload_n 2), (791, .invokevirtual 118), (794, .if_icmp .eq 173), (797, .iconst 0), (798, .ireturn), (799, .aload_n 1), (800, .aload_n 0), (801, .iload_n 3), (802, .iconst 1), (803, .iadd), (804, .iaload), (805, .invokevirtual 119), (808, .aload_n 2), (809, .aload_n 0), (810, .iload_n 3), (811, .iconst 1), (812, .iadd), (813, .iaload), (814, .invokevirtual 122), (817, .if_icmp .eq 150), (820, .iconst 0), (821, .ireturn), (822, .aload_n 1), (823, .aload_n 0), (824, .iload_n 3), (825, .iconst 1), (826, .iadd), (827, .iaload), (828, .invokevirtual 123), (831, .aload_n 2), (832, .aload_n 0), (833, .iload_n 3), (834, .iconst 1), (835, .iadd), (836, .iaload), (837, .invokevirtual 126), (840, .if_icmp .eq 127), (843, .iconst 0), (844, .ireturn), (845, .aload_n 1), (846, .invokevirtual 127), (849, .aload_n 2), (850, .invokevirtual 131), (853, .if_icmp .eq 114), (856, .iconst 0), (857, .ireturn), (858, .aload_n 1), (859, .aload_n 0), (860, .iload_n 3), (861, .iconst 1), (862, .iadd), (863, .iaload), (864, .invokevirtual 132), (867, .aload_n 2), (868, .aload_n 0), (869, .iload_n 3), (870, .iconst 1), (871, .iadd), (872, .iaload), (873, .invokevirtual 135), (876, .if_icmp .eq 91), (879, .iconst 0), (880, .ireturn), (881, .aload_n 1), (882, .invokevirtual 136), (885, .aload_n 2), (886, .invokevirtual 140), (889, .lcmp), (890, .ifCond .eq 77), (893, .iconst 0), (894, .ireturn), (895, .aload_n 1), (896, .invokevirtual 141), (899, .aload_n 2), (900, .invokevirtual 144), (903, .if_icmp .eq 64), (906, .iconst 0), (907, .ireturn), (908, .aload_n 1), (909, .aload_n 0), (910, .iload_n 3), (911, .iconst 1), (912, .iadd), (913, .iaload), (914, .invokevirtual 145), (917, .aload_n 2), (918, .aload_n 0), (919, .iload_n 3), (920, .iconst 1), (921, .iadd), (922, .iaload), (923, .invokevirtual 148), (926, .if_icmp .eq 41), (929, .iconst 0), (930, .ireturn), (931, .aload_n 1), (932, .invokevirtual 149), (935, .aload_n 2), (936, .invokevirtual 152), (939, .if_icmp .eq 28), (942, .iconst 0), (943, .ireturn), (944, .aload_n 1), (945, .aload_n 0), (946, .iload_n 3), (947, .iconst 1), (948, .iadd), (949, .iaload), (950, .invokevirtual 153), (953, .aload_n 2), (954, .aload_n 0), (955, .iload_n 3), (956, .iconst 1), (957, .iadd), (958, .iaload), (959, .invokevirtual 156), (962, .if_icmp .eq 5), (965, .iconst 0), (966, .ireturn), (967, .iinc 3 6), (970, .goto (-952)), (973, .iconst 1), (974, .ireturn)])
def am_tb0 : List am_M := [am_m0, am_m1, am_m2, am_m3, am_m4, am_m5, am_m6, am_m7, am_m8, am_m9, am_m10, am_m11, am_m12, am_m13, am_m14, am_m15, am_m16, am_m17, am_m18, am_m19]
def am_tb1 : List am_M := [am_m20, am_m21, am_m22, am_m23, am_m24, am_m25, am_m26, am_m27, am_m28, am_m29, am_m30, am_m31, am_m32, am_m33, am_m34, am_m35, am_m36, am_m37, am_m38, am_m39]
def am_tb2 : List am_M := [am_m40, am_m41, am_m42, am_m43, am_m44, am_m45, am_m46, am_m47, am_m48, am_m49, am_m50, am_m51, am_m52, am_m53, am_m54, am_m55, am_m56, am_m57, am_m58, am_m59]
def am_tb3 : List am_M := [am_m60, am_m61, am_m62, am_m63, am_m64, am_m65, am_m66, am_m67, am_m68, am_m69, am_m70, am_m71, am_m72, am_m73, am_m74, am_m75, am_m76, am_m77, am_m78, am_m79]
def am_tb4 : List am_M := [am_m80, am_m81, am_m82, am_m83, am_m84, am_m85, am_m86, am_m87, am_m88, am_m89, am_m90, am_m91, am_m92, am_m93, am_m94, am_m95, am_m96, am_m97, am_m98, am_m99]
def am_tb5 : List am_M := [am_m100, am_m101, am_m102, am_m103, am_m104, am_m105, am_m106, am_m107, am_m108, am_m109, am_m110, am_m111, am_m112, am_m113, am_m114, am_m115, am_m116, am_m117, am_m118, am_m119]
def am_tb6 : List am_M := [am_m120, am_m121, am_m122, am_m123, am_m124, am_m125, am_m126, am_m127, am_m128, am_m129, am_m130, am_m131, am_m132, am_m133, am_m134, am_m135, am_m136, am_m137, am_m138, am_m139]
def am_tb7 : List am_M := [am_m140, am_m141, am_m142, am_m143, am_m144, am_m145, am_m146, am_m147, am_m148, am_m149, am_m150, am_m151, am_m152, am_m153, am_m154, am_m155, am_m156, am_m157, am_m158, am_m159]
def am_tb8 : List am_M := [am_m160, am_m161, am_m162, am_m163, am_m164, am_m165, am_m166, am_m167, am_m168, am_m169, am_m170, am_m171, am_m172, am_m173, am_m174, am_m175, am_m176, am_m177, am_m178, am_m179]
def am_tb9 : List am_M := [am_m180, am_m181, am_m182, am_m183, am_m184, am_m185, am_m186, am_m187, am_m188, am_m189, am_m190, am_m191, am_m192, am_m193, am_m194, am_m195, am_m196, am_m197, am_m198, am_m199]
def am_tb10 : List am_M := [am_m200, am_m201, am_m202, am_m203, am_m204, am_m205, am_m206, am_m207, am_m208, am_m209, am_m210, am_m211, am_m212, am_m213, am_m214, am_m215, am_m216, am_m217, am_m218, am_m219]
def am_tb11 : List am_M := [am_m220, am_m221, am_m222, am_m223, am_m224, am_m225, am_m226, am_m227, am_m228, am_m229, am_m230, am_m231, am_m232, am_m233, am_m234, am_m235, am_m236, am_m237, am_m238, am_m239]
def am_tb12 : List am_M := [am_m240, am_m241, am_m242, am_m243, am_m244, am_m245, am_m246, am_m247, am_m248, am_m249, am_m250, am_m251, am_m252, am_m253, am_m254, am_m255, am_m256, am_m257, am_m258, am_m259]
def am_tb13 : List am_M := [am_m260, am_m261, am_m262, am_m263, am_m264, am_m265, am_m266, am_m267, am_m268, am_m269, am_m270, am_m271, am_m272, am_m273, am_m274, am_m275, am_m276, am_m277, am_m278, am_m279]
def am_tb14 : List am_M := [am_m280, am_m281, am_m282, am_m283, am_m284, am_m285, am_m286, am_m287, am_m288, am_m289, am_m290, am_m291, am_m292, am_m293, am_m294, am_m295, am_m296, am_m297, am_m298, am_m299]
def am_tb15 : List am_M := [am_m300, am_m301, am_m302, am_m303, am_m304, am_m305, am_m306, am_m307, am_m308, am_m309, am_m310, am_m311, am_m312, am_m313, am_m314, am_m315, am_m316, am_m317, am_m318, am_m319]
def am_tb16 : List am_M := [am_m320]
/-- the method of a number -/
def am_tab (i : Nat) : Option am_M := (([am_tb0, am_tb1, am_tb2, am_tb3, am_tb4, am_tb5, am_tb6, am_tb7, am_tb8, am_tb9, am_tb10, am_tb11, am_tb12, am_tb13, am_tb14, am_tb15, am_tb16] : List (List am_M)).getD (i / 20) [])[i % 20]?
def am_ints : List Int32 := [1431655765, 858993459, 252645135]
def am_lngs : List Int64 := [(-1000000), 1000000, (-1), (-1000000000000000), 1103515245, 12345, 2147483648, 64, 27, 97, 3, 5, 10, 2, 20, 1103515245, 12345, 2147483648, 64, 50, 1000000, (-1000000), (-1), (-1000000000000000)]
def am_p0 : List (Nat × Nat × Nat × Nat) := [(3, 7, 0, 0), (9, 0, 0, 0), (15, 0, 0, 1), (18, 0, 0, 2), (22, 0, 0, 3), (25, 5, 140, 0), (29, 5, 139, 1), (33, 1, 5, 0), (37, 2, 6, 0), (41, 1, 7, 0), (45, 2, 8, 0), (49, 2, 9, 0), (53, 2, 10, 0), (56, 1, 28, 0), (62, 2, 309, 0), (67, 1, 30, 0), (70, 1, 31, 0), (74, 1, 32, 0), (78, 1, 20, 0), (81, 1, 33, 0), (84, 2, 11, 0), (88, 2, 314, 0), (93, 2, 310, 0), (96, 2, 311, 0), (99, 16, 0, 0), (101, 16, 1, 0), (103, 2, 312, 0), (106, 2, 313, 0)]
def am_p1 : List (Nat × Nat × Nat × Nat) := [(3, 7, 0, 0), (9, 9, 0, 0), (11, 6, 0, 2), (12, 0, 1, 0), (18, 0, 1, 1), (22, 0, 1, 2), (25, 0, 1, 3), (28, 0, 1, 4), (31, 0, 1, 5), (34, 0, 1, 6), (37, 0, 1, 7), (40, 0, 1, 8), (43, 0, 1, 9), (46, 0, 1, 10), (49, 0, 1, 11), (52, 0, 1, 12), (56, 0, 1, 13), (59, 0, 1, 14), (62, 1, 1, 0), (65, 2, 320, 0), (71, 1, 18, 0), (75, 1, 14, 0), (79, 5, 140, 3), (83, 1, 20, 0), (87, 5, 139, 4), (91, 17, 0, 0), (94, 1, 43, 0), (97, 1, 16, 0), (101, 1, 38, 0), (104, 1, 28, 0), (107, 1, 31, 0), (110, 1, 32, 0), (113, 1, 33, 0), (116, 1, 30, 0), (119, 1, 40, 0), (123, 1, 35, 0), (126, 1, 41, 0), (129, 1, 4, 0)]
def am_p2 : List (Nat × Nat × Nat × Nat) := [(3, 7, 0, 0), (9, 0, 2, 0), (15, 9, 9, 0), (17, 3, 103, 0), (20, 0, 2, 1), (24, 1, 13, 0), (29, 1, 117, 0), (34, 1, 121, 0), (38, 10, 0, 0), (40, 1, 122, 0), (44, 1, 48, 0), (48, 10, 5, 0), (50, 1, 50, 0), (53, 10, 7, 0), (55, 1, 52, 0), (58, 10, 22, 0), (60, 1, 53, 0), (63, 10, 24, 0), (65, 1, 128, 0), (69, 1, 129, 0), (73, 1, 25, 0), (77, 1, 133, 0), (81, 1, 123, 0), (84, 1, 127, 0), (88, 1, 14, 0), (92, 1, 118, 0), (95, 1, 125, 0), (98, 1, 15, 0), (101, 1, 17, 0), (104, 1, 16, 0), (107, 1, 49, 0), (111, 10, 2, 0), (113, 10, 3, 0), (115, 10, 4, 0), (117, 1, 130, 0), (120, 1, 19, 0), (124, 10, 6, 0), (126, 1, 131, 0), (129, 1, 51, 0), (133, 1, 21, 0), (137, 10, 8, 0), (139, 1, 22, 0), (143, 1, 2, 0), (148, 1, 104, 0), (152, 1, 23, 0), (155, 10, 23, 0), (157, 1, 24, 0)]
def am_p3 : List (Nat × Nat × Nat × Nat) := [(3, 7, 0, 0), (9, 0, 3, 0), (15, 0, 3, 1), (18, 0, 3, 2), (22, 1, 98, 0), (28, 1, 102, 0), (32, 1, 20, 0), (38, 1, 42, 0), (42, 5, 140, 5), (46, 1, 101, 0), (50, 5, 139, 6), (54, 1, 36, 0), (57, 1, 39, 0), (61, 1, 29, 0)]
def am_p4 : List (Nat × Nat × Nat × Nat) := [(3, 7, 0, 0), (9, 0, 4, 0), (15, 0, 4, 1), (19, 1, 98, 0), (24, 1, 102, 0), (28, 1, 20, 0), (34, 5, 140, 7), (38, 1, 101, 0), (42, 5, 139, 8), (46, 1, 62, 0), (49, 1, 36, 0), (52, 1, 39, 0), (56, 1, 37, 0), (59, 2, 309, 0)]
def am_p5 : List (Nat × Nat × Nat × Nat) := [(3, 7, 0, 0), (9, 9, 0, 0), (11, 6, 0, 9), (12, 0, 5, 2), (18, 0, 5, 3), (22, 0, 5, 0), (26, 9, 9, 0), (28, 3, 103, 0), (31, 0, 5, 1), (35, 1, 117, 0), (40, 1, 1, 0), (43, 1, 67, 0), (47, 1, 123, 0), (51, 1, 104, 0), (55, 1, 108, 0), (58, 1, 121, 0), (62, 1, 127, 0), (65, 10, 25, 0), (67, 1, 130, 0), (71, 10, 26, 0), (73, 10, 27, 0), (75, 10, 28, 0), (77, 10, 29, 0), (79, 10, 30, 0), (81, 16, 2, 0), (83, 1, 18, 0), (89, 1, 2, 0), (92, 1, 4, 0), (96, 1, 69, 0), (100, 2, 313, 0), (106, 2, 312, 0)]
def am_p6 : List (Nat × Nat × Nat × Nat) := [(3, 7, 0, 0), (9, 0, 6, 0), (15, 0, 6, 1), (18, 0, 6, 2), (21, 0, 6, 3), (24, 0, 6, 4), (28, 0, 6, 5), (31, 0, 6, 6), (34, 2, 320, 0), (40, 1, 73, 0), (44, 5, 139, 10), (48, 1, 74, 0), (52, 1, 18, 0), (57, 1, 36, 0), (61, 1, 39, 0), (65, 5, 140, 11), (69, 1, 29, 0), (72, 1, 76, 0)]
def am_p7 : List (Nat × Nat × Nat × Nat) := [(5, 7, 0, 0), (11, 0, 7, 0), (15, 14, 0, 0), (17, 0, 7, 1), (20, 0, 7, 2), (24, 0, 7, 3), (27, 5, 140, 12), (31, 5, 139, 13), (35, 1, 84, 0), (39, 2, 310, 0), (45, 1, 95, 0), (49, 1, 86, 0), (52, 8, 0, 0), (58, 1, 90, 0), (62, 2, 91, 0)]
def am_p8 : List (Nat × Nat × Nat × Nat) := [(3, 7, 0, 0), (9, 0, 8, 0), (15, 0, 8, 1), (19, 2, 310, 0), (25, 2, 311, 0), (28, 1, 100, 0), (32, 5, 140, 14)]
def am_p9 : List (Nat × Nat × Nat × Nat) := [(3, 7, 0, 0), (9, 0, 9, 0), (15, 0, 9, 1), (19, 1, 105, 0), (23, 10, 21, 0), (25, 1, 130, 0), (33, 1, 3, 0), (37, 1, 106, 0), (40, 10, 20, 0), (42, 10, 9, 0), (44, 1, 122, 0), (47, 1, 107, 0), (51, 1, 132, 0), (55, 1, 104, 0), (58, 1, 133, 0), (62, 10, 10, 0), (64, 1, 108, 0), (67, 1, 115, 0), (71, 1, 109, 0), (74, 1, 114, 0), (78, 1, 110, 0), (81, 1, 134, 0), (85, 1, 129, 0), (89, 10, 11, 0), (91, 1, 111, 0), (95, 10, 12, 0), (97, 10, 13, 0), (99, 1, 112, 0), (102, 10, 14, 0), (104, 1, 113, 0), (107, 1, 123, 0), (110, 1, 118, 0), (113, 10, 15, 0), (115, 10, 16, 0), (117, 10, 17, 0), (119, 10, 18, 0), (121, 10, 19, 0)]
def am_p10 : List (Nat × Nat × Nat × Nat) := [(3, 7, 0, 0), (11, 0, 10, 1), (15, 0, 10, 2), (18, 0, 10, 3), (21, 0, 10, 4), (24, 0, 10, 5), (27, 0, 10, 0), (31, 1, 118, 0), (34, 1, 124, 0), (38, 1, 98, 0), (44, 1, 102, 0), (48, 2, 119, 0), (52, 2, 120, 0), (55, 1, 315, 0), (58, 1, 317, 0), (62, 10, 1, 0), (64, 1, 122, 0), (68, 1, 123, 0), (72, 1, 132, 0), (76, 1, 126, 0)]
def am_p11 : List (Nat × Nat × Nat × Nat) := [(1, 7, 0, 0), (7, 9, 8, 0), (9, 6, 97, 15), (10, 0, 11, 0), (16, 9, 10, 0), (18, 3, 116, 0), (21, 0, 11, 1), (25, 9, 2, 0), (27, 3, 46, 0), (30, 0, 11, 2), (34, 9, 5, 0), (36, 3, 65, 0), (37, 0, 11, 3), (41, 9, 6, 0), (43, 6, 70, 16), (44, 0, 11, 4), (48, 9, 4, 0), (50, 6, 59, 17), (51, 0, 11, 5), (55, 9, 3, 0), (57, 6, 54, 18), (58, 0, 11, 6), (62, 9, 7, 0), (64, 6, 82, 19), (65, 0, 11, 7), (69, 0, 11, 8), (73, 0, 11, 9), (76, 0, 11, 10), (79, 0, 11, 11), (82, 9, 1, 0), (84, 6, 12, 20), (85, 0, 11, 12), (89, 0, 11, 13), (92, 0, 11, 14), (96, 0, 11, 15), (99, 0, 11, 16), (103, 0, 11, 17), (107, 1, 98, 0), (111, 1, 138, 0), (115, 1, 99, 0), (119, 1, 101, 0), (122, 1, 47, 0), (126, 1, 26, 0), (129, 1, 83, 0), (133, 1, 55, 0), (136, 1, 127, 0), (139, 1, 135, 0), (142, 1, 18, 0), (145, 1, 27, 0), (148, 1, 84, 0), (151, 1, 85, 0), (154, 1, 28, 0), (157, 1, 29, 0), (160, 1, 86, 0), (163, 1, 56, 0), (166, 1, 87, 0), (169, 1, 20, 0), (173, 1, 34, 0), (177, 1, 30, 0), (180, 1, 31, 0), (183, 1, 35, 0), (186, 1, 32, 0), (189, 1, 36, 0), (192, 1, 37, 0), (195, 1, 33, 0), (198, 1, 38, 0), (201, 1, 88, 0), (204, 1, 60, 0), (208, 1, 61, 0), (209, 1, 62, 0), (212, 1, 39, 0), (215, 2, 309, 0), (220, 2, 140, 0), (224, 2, 139, 0), (228, 1, 42, 0), (232, 1, 71, 0), (235, 1, 43, 0), (238, 1, 72, 0), (242, 1, 75, 0), (245, 1, 77, 0), (248, 1, 78, 0), (251, 1, 79, 0), (254, 1, 80, 0), (257, 1, 81, 0), (260, 2, 157, 0), (264, 1, 63, 0), (268, 1, 160, 0), (272, 1, 161, 0), (275, 1, 57, 0), (276, 1, 44, 0), (279, 1, 58, 0), (282, 1, 40, 0), (286, 1, 89, 0), (289, 1, 167, 0), (292, 1, 45, 0), (295, 1, 92, 0), (298, 1, 94, 0), (301, 1, 171, 0), (304, 1, 41, 0), (307, 1, 96, 0), (311, 1, 66, 0), (314, 1, 68, 0), (318, 16, 3, 0), (320, 2, 176, 0), (323, 1, 179, 0), (326, 1, 102, 0), (329, 1, 93, 0), (332, 16, 4, 0), (334, 16, 5, 0), (336, 16, 6, 0), (338, 16, 7, 0), (340, 1, 64, 0)]
def am_p12 : List (Nat × Nat × Nat × Nat) := [(1, 7, 0, 0), (7, 0, 12, 0), (13, 0, 12, 8), (17, 0, 12, 9), (20, 0, 12, 10), (24, 0, 12, 11), (27, 0, 12, 12), (30, 0, 12, 13), (33, 0, 12, 14), (36, 0, 12, 15), (39, 0, 12, 16), (42, 0, 12, 17), (45, 0, 12, 18), (48, 0, 12, 19), (51, 0, 12, 20), (54, 0, 12, 21), (57, 0, 12, 22), (60, 0, 12, 23), (63, 0, 12, 24), (66, 0, 12, 25), (69, 0, 12, 26), (72, 0, 12, 27), (75, 0, 12, 28), (78, 0, 12, 29), (81, 0, 12, 31), (84, 0, 12, 32), (88, 0, 12, 33), (91, 0, 12, 34), (94, 0, 12, 35), (97, 0, 12, 36), (100, 0, 12, 37), (103, 0, 12, 38), (106, 0, 12, 39), (109, 0, 12, 43), (112, 0, 12, 44), (115, 0, 12, 45), (118, 0, 12, 51), (121, 0, 12, 52), (124, 0, 12, 53), (127, 0, 12, 54), (130, 0, 12, 56), (133, 0, 12, 57), (136, 0, 12, 59), (139, 0, 12, 60), (142, 0, 12, 63), (146, 0, 12, 64), (149, 0, 12, 65), (152, 0, 12, 66), (155, 0, 12, 67), (158, 0, 12, 68), (161, 0, 12, 69), (164, 0, 12, 70), (167, 0, 12, 71), (170, 0, 12, 72), (173, 0, 12, 73), (176, 0, 12, 74), (179, 0, 12, 75), (182, 0, 12, 76), (185, 0, 12, 77), (188, 0, 12, 78), (191, 0, 12, 79), (194, 0, 12, 80), (197, 0, 12, 81), (200, 0, 12, 82), (203, 0, 12, 83), (206, 0, 12, 85), (209, 0, 12, 89), (212, 0, 12, 93), (215, 0, 12, 1), (218, 0, 12, 5), (221, 0, 12, 6), (224, 0, 12, 2), (227, 0, 12, 3), (230, 1, 185, 0), (234, 2, 190, 0), (238, 0, 12, 4), (241, 1, 189, 0), (245, 1, 188, 0), (248, 1, 187, 0), (252, 1, 214, 0), (255, 2, 199, 0), (258, 2, 200, 0), (262, 1, 195, 0), (266, 0, 12, 30), (269, 16, 8, 0), (271, 16, 9, 0), (273, 0, 12, 42), (277, 1, 194, 0), (281, 1, 196, 0), (285, 1, 192, 0), (289, 1, 193, 0), (292, 1, 197, 0), (296, 1, 198, 0), (300, 1, 202, 0), (303, 0, 12, 84), (306, 0, 12, 86), (309, 0, 12, 87), (312, 0, 12, 88), (315, 1, 204, 0), (318, 0, 12, 40), (321, 0, 12, 41), (324, 1, 191, 0), (328, 1, 201, 0), (331, 1, 203, 0), (334, 1, 226, 0), (337, 1, 213, 0), (340, 1, 186, 0), (343, 0, 12, 7), (346, 1, 227, 0), (349, 0, 12, 61), (352, 0, 12, 58), (355, 0, 12, 47), (358, 1, 230, 0), (361, 0, 12, 90), (364, 1, 234, 0), (368, 1, 235, 0), (372, 2, 240, 0), (376, 1, 241, 0), (380, 1, 245, 0), (383, 1, 232, 0), (386, 1, 233, 0), (389, 1, 236, 0), (392, 1, 239, 0), (395, 1, 244, 0), (398, 1, 237, 0), (402, 1, 243, 0), (405, 1, 238, 0), (408, 1, 231, 0), (411, 16, 10, 0), (413, 16, 11, 0), (415, 1, 249, 0), (418, 1, 254, 0), (421, 1, 251, 0), (424, 16, 12, 0), (426, 1, 252, 0), (429, 1, 253, 0), (432, 16, 13, 0), (434, 16, 14, 0), (436, 0, 12, 46), (439, 1, 259, 0), (442, 1, 260, 0), (445, 1, 261, 0), (448, 0, 12, 50), (451, 1, 262, 0), (454, 2, 242, 0), (457, 0, 12, 48), (460, 0, 12, 49), (463, 1, 263, 0), (466, 1, 269, 0), (469, 1, 272, 0), (472, 1, 268, 0), (475, 0, 12, 55), (478, 1, 270, 0), (481, 1, 271, 0), (485, 1, 273, 0), (488, 1, 266, 0), (491, 1, 267, 0), (495, 1, 274, 0), (498, 2, 280, 0), (501, 1, 279, 0), (504, 1, 282, 0), (507, 1, 286, 0), (510, 0, 12, 62), (513, 16, 15, 0), (515, 16, 16, 0), (517, 16, 17, 0), (519, 16, 18, 0), (521, 1, 293, 0), (524, 1, 291, 0), (527, 1, 292, 0), (530, 16, 19, 0), (532, 1, 297, 0), (535, 1, 207, 0), (538, 2, 220, 0), (541, 1, 217, 0), (544, 1, 211, 0), (547, 1, 212, 0), (550, 1, 210, 0), (553, 1, 205, 0), (556, 1, 215, 0), (559, 1, 216, 0), (562, 1, 219, 0), (565, 1, 221, 0), (568, 1, 222, 0), (571, 1, 209, 0), (574, 1, 218, 0), (577, 1, 208, 0), (580, 1, 206, 0), (583, 1, 223, 0), (586, 1, 224, 0), (589, 1, 225, 0), (592, 16, 20, 0), (594, 16, 21, 0), (596, 2, 246, 0), (600, 16, 22, 0), (602, 0, 12, 91), (605, 0, 12, 92), (608, 1, 299, 0), (611, 16, 23, 0), (613, 1, 300, 0), (617, 1, 301, 0), (621, 0, 12, 94), (624, 1, 303, 0), (627, 2, 304, 0), (631, 1, 307, 0)]
def am_p13 : List (Nat × Nat × Nat × Nat) := [(7, 9, 11, 0), (9, 3, 136, 0), (10, 9, 12, 0), (12, 3, 181, 0), (13, 1, 137, 0), (17, 1, 182, 0), (18, 1, 141, 0), (22, 1, 183, 0), (23, 1, 142, 0), (27, 1, 184, 0), (28, 1, 143, 0), (32, 1, 228, 0), (33, 1, 144, 0), (36, 1, 229, 0), (37, 1, 145, 0), (41, 1, 247, 0), (42, 1, 146, 0), (46, 1, 248, 0), (47, 1, 147, 0), (50, 1, 250, 0), (51, 1, 148, 0), (54, 1, 255, 0), (55, 1, 149, 0), (58, 1, 256, 0), (59, 1, 150, 0), (62, 1, 257, 0), (63, 1, 151, 0), (66, 1, 258, 0), (67, 1, 152, 0), (70, 1, 264, 0), (71, 1, 153, 0), (74, 1, 265, 0), (75, 1, 154, 0), (78, 1, 275, 0), (79, 1, 155, 0), (82, 1, 276, 0), (83, 1, 156, 0), (86, 1, 277, 0), (87, 1, 158, 0), (90, 1, 278, 0), (91, 1, 159, 0), (94, 1, 281, 0), (95, 1, 162, 0), (98, 1, 283, 0), (99, 1, 163, 0), (102, 1, 284, 0), (103, 1, 164, 0), (106, 1, 285, 0), (107, 1, 165, 0), (110, 1, 287, 0), (111, 1, 166, 0), (114, 1, 290, 0), (115, 1, 168, 0), (118, 1, 294, 0), (119, 1, 169, 0), (122, 1, 295, 0), (123, 1, 170, 0), (126, 1, 296, 0), (127, 1, 172, 0), (131, 1, 288, 0), (132, 1, 173, 0), (135, 1, 289, 0), (136, 1, 174, 0), (140, 1, 298, 0), (141, 1, 175, 0), (144, 1, 302, 0), (145, 1, 177, 0), (148, 1, 305, 0), (149, 1, 178, 0), (152, 1, 306, 0), (153, 1, 180, 0), (156, 1, 308, 0)]
def am_p14 : List (Nat × Nat × Nat × Nat) := [(265, 15, 0, 0), (266, 15, 1, 0), (267, 15, 2, 0)]
def am_p15 : List (Nat × Nat × Nat × Nat) := []
def am_p16 : List (Nat × Nat × Nat × Nat) := [(9, 12, 0, 0), (15, 13, 0, 0), (38, 11, 0, 0), (335, 1, 316, 0), (492, 1, 318, 0), (495, 2, 319, 0)]
def am_p17 : List (Nat × Nat × Nat × Nat) := []
def am_p18 : List (Nat × Nat × Nat × Nat) := []
def am_pool : List (List (Nat × Nat × Nat × Nat)) := [am_p0, am_p1, am_p2, am_p3, am_p4, am_p5, am_p6, am_p7, am_p8, am_p9, am_p10, am_p11, am_p12, am_p13, am_p14, am_p15, am_p16, am_p17, am_p18]
/-- an entry of a class's constant pool: its kind and two numbers -/
def am_pl (o x : Nat) : Option (Nat × Nat × Nat) := (am_pool.getD o []).lookup x
/-- the links between nest mates -/
def am_ns0 : List (String × Nat × MethodName × String) := [("LockOrchestra$Code", 25, ⟨"LockOrchestra", "setCell", "([III)V"⟩, "LockOrchestra"), ("LockOrchestra$Code", 29, ⟨"LockOrchestra", "cell", "([II)I"⟩, "LockOrchestra"), ("LockOrchestra$Hall", 11, ⟨"LockOrchestra$Code", "<init>", "()V"⟩, "LockOrchestra"), ("LockOrchestra$Hall", 79, ⟨"LockOrchestra", "setCell", "([III)V"⟩, "LockOrchestra"), ("LockOrchestra$Hall", 87, ⟨"LockOrchestra", "cell", "([II)I"⟩, "LockOrchestra"), ("LockOrchestra$Heard", 42, ⟨"LockOrchestra", "setCell", "([III)V"⟩, "LockOrchestra"), ("LockOrchestra$Heard", 50, ⟨"LockOrchestra", "cell", "([II)I"⟩, "LockOrchestra"), ("LockOrchestra$Piece", 34, ⟨"LockOrchestra", "setCell", "([III)V"⟩, "LockOrchestra"), ("LockOrchestra$Piece", 42, ⟨"LockOrchestra", "cell", "([II)I"⟩, "LockOrchestra"), ("LockOrchestra$Question", 11, ⟨"LockOrchestra$Code", "<init>", "()V"⟩, "LockOrchestra"), ("LockOrchestra$Search", 44, ⟨"LockOrchestra", "cell", "([II)I"⟩, "LockOrchestra"), ("LockOrchestra$Search", 65, ⟨"LockOrchestra", "setCell", "([III)V"⟩, "LockOrchestra"), ("LockOrchestra$Story", 27, ⟨"LockOrchestra", "setCell", "([III)V"⟩, "LockOrchestra"), ("LockOrchestra$Story", 31, ⟨"LockOrchestra", "cell", "([II)I"⟩, "LockOrchestra"), ("LockOrchestra$Tape", 32, ⟨"LockOrchestra", "setCell", "([III)V"⟩, "LockOrchestra"), ("LockOrchestra", 9, ⟨"LockOrchestra$Tape", "<init>", "()V"⟩, "LockOrchestra"), ("LockOrchestra", 43, ⟨"LockOrchestra$Search", "<init>", "()V"⟩, "LockOrchestra"), ("LockOrchestra", 50, ⟨"LockOrchestra$Piece", "<init>", "()V"⟩, "LockOrchestra"), ("LockOrchestra", 57, ⟨"LockOrchestra$Heard", "<init>", "()V"⟩, "LockOrchestra"), ("LockOrchestra", 64, ⟨"LockOrchestra$Story", "<init>", "()V"⟩, "LockOrchestra"), ("LockOrchestra", 84, ⟨"LockOrchestra$Hall", "<init>", "()V"⟩, "LockOrchestra")]
def am_nst : List Cond := am_ns0.map (fun q => .methodLinkNest q.1 q.2.1 q.2.2.1 q.2.2.2)
/-- the String constants: class, entry, text, bytes -/
def am_lit : List (String × Nat × String × List Int32) := [("LockOrchestra$HallReader", 38, "lock", [108, 111, 99, 107]), ("LockOrchestra$Words", 62, " lock wards at jams note turns door opens player plays rust ward stuck number or and not all min max ", [32, 108, 111, 99, 107, 32, 119, 97, 114, 100, 115, 32, 97, 116, 32, 106, 97, 109, 115, 32, 110, 111, 116, 101, 32, 116, 117, 114, 110, 115, 32, 100, 111, 111, 114, 32, 111, 112, 101, 110, 115, 32, 112, 108, 97, 121, 101, 114, 32, 112, 108, 97, 121, 115, 32, 114, 117, 115, 116, 32, 119, 97, 114, 100, 32, 115, 116, 117, 99, 107, 32, 110, 117, 109, 98, 101, 114, 32, 111, 114, 32, 97, 110, 100, 32, 110, 111, 116, 32, 97, 108, 108, 32, 109, 105, 110, 32, 109, 97, 120, 32]), ("LockOrchestra$HallReader", 111, "wards", [119, 97, 114, 100, 115]), ("LockOrchestra$HallReader", 113, "at", [97, 116]), ("LockOrchestra$HallReader", 115, "jams", [106, 97, 109, 115]), ("LockOrchestra$HallReader", 48, "note", [110, 111, 116, 101]), ("LockOrchestra$HallReader", 124, "turns", [116, 117, 114, 110, 115]), ("LockOrchestra$HallReader", 53, "door", [100, 111, 111, 114]), ("LockOrchestra$HallReader", 137, "opens", [111, 112, 101, 110, 115]), ("LockOrchestra$TestReader", 42, "not", [110, 111, 116]), ("LockOrchestra$TestReader", 62, "all", [97, 108, 108]), ("LockOrchestra$TestReader", 89, "min", [109, 105, 110]), ("LockOrchestra$TestReader", 95, "max", [109, 97, 120]), ("LockOrchestra$TestReader", 97, "at", [97, 116]), ("LockOrchestra$TestReader", 102, "turns", [116, 117, 114, 110, 115]), ("LockOrchestra$TestReader", 113, "jams", [106, 97, 109, 115]), ("LockOrchestra$TestReader", 115, "number", [110, 117, 109, 98, 101, 114]), ("LockOrchestra$TestReader", 117, "wards", [119, 97, 114, 100, 115]), ("LockOrchestra$TestReader", 119, "ward", [119, 97, 114, 100]), ("LockOrchestra$TestReader", 121, "stuck", [115, 116, 117, 99, 107]), ("LockOrchestra$TestReader", 40, "and", [97, 110, 100]), ("LockOrchestra$TestReader", 23, "or", [111, 114]), ("LockOrchestra$HallReader", 58, "player", [112, 108, 97, 121, 101, 114]), ("LockOrchestra$HallReader", 155, "plays", [112, 108, 97, 121, 115]), ("LockOrchestra$HallReader", 63, "rust", [114, 117, 115, 116]), ("LockOrchestra$Question", 65, "first", [102, 105, 114, 115, 116]), ("LockOrchestra$Question", 71, "last", [108, 97, 115, 116]), ("LockOrchestra$Question", 73, "often", [111, 102, 116, 101, 110]), ("LockOrchestra$Question", 75, "total", [116, 111, 116, 97, 108]), ("LockOrchestra$Question", 77, "most", [109, 111, 115, 116]), ("LockOrchestra$Question", 79, "least", [108, 101, 97, 115, 116])]
end
section
/-! A MACHINE OF OUR OWN over lists: locals, stack, cells by their numbers. It runs the tables of 02; part 05 shows that the claim's machine does what it does. -/
abbrev am_L : Type := List (Nat × Value)
abbrev am_H : Type := List va_E
abbrev am_C : Type := Nat × am_L × List Value × am_H
/-- the arrays that are there before the law begins and are only read: (0 int, 4 byte), length, contents -/
abbrev am_Env : Type := Nat → Option (Nat × Nat × (Nat → Int32))
def am_ld (i : Nat) : am_L → Option Value
  | [] => none
  | (j, v) :: t => if j = i then some v else am_ld i t
def am_s1 (i : Nat) (v : Value) (ls : am_L) : am_L := (i, v) :: ls.filter (fun q => !(q.1 == i) && !(q.1 + 1 == i && q.2.category == 2))
def am_s2 (i : Nat) (v : Value) (ls : am_L) : am_L := (i, v) :: ls.filter (fun q => !(q.1 == i) && (!(q.1 == i + 1) && !(q.1 + 1 == i && q.2.category == 2)))
/-- x below, y on top -/
def am_i2 (i : Instr) (x y : Int32) : Option Int32 := match i with
  | .iadd => some (x + y)
  | .isub => some (x - y)
  | .imul => some (x * y)
  | .iand => some (x &&& y)
  | .ior => some (x ||| y)
  | .ixor => some (x ^^^ y)
  | .ishl => some (x <<< (y &&& 31))
  | .ishr => some (x >>> (y &&& 31))
  | .iushr => some (x.toUInt32 >>> (y.toUInt32 &&& Int32.toUInt32 31)).toInt32
  | .idiv => if y = 0 then none else some (x / y)
  | .irem => if y = 0 then none else some (x - x / y * y)
  | _ => none
def am_l2 (i : Instr) (x y : Int64) : Option Int64 := match i with
  | .ladd => some (x + y)
  | .lsub => some (x - y)
  | .lmul => some (x * y)
  | .land => some (x &&& y)
  | .lor => some (x ||| y)
  | .ldiv => if y = 0 then none else some (x / y)
  | .lrem => if y = 0 then none else some (x - x / y * y)
  | _ => none
def am_cc2 (c : ClassFile.Cond) (x y : Int32) : Bool := match c with
  | .eq => decide (x = y)
  | .ne => decide (¬ x = y)
  | .lt => decide (x < y)
  | .ge => decide (y ≤ x)
  | .gt => decide (y < x)
  | .le => decide (x ≤ y)
/-- where a jump comes to -/
def am_to (pc : Nat) (off : Int) : Option Nat := if 0 ≤ (pc : Int) + off then some ((pc : Int) + off).toNat else none
/-- may the value stand in a field of that type -/
def am_fit (ty : FieldType) (v : Value) : Bool := match v with
  | .ref _ => match ty with
    | .object _ => true
    | .array _ => true
    | _ => false
  | .null => match ty with
    | .object _ => true
    | .array _ => true
    | _ => false
  | .int x => decide (narrow ty (.int x) = .int x) && fits ty (.int x)
  | .long x => decide (narrow ty (.long x) = .long x) && fits ty (.long x)
  | _ => false
/-- a new object's fields -/
def am_new (ci : Nat) : Option (List Value) := match am_cl[ci]?, am_cy[ci]? with
  | some q, some ty => some ((List.range q.2.2).map (fun j => defaultValue (ty j)))
  | _, _ => none
/-- a new array -/
def am_na0 (t : ArrayType) (n : Nat) : Option va_E := match t with
  | .int => some (.inl (0, n, .inl (fun _ => 0)))
  | .long => some (.inl (1, n, .inr (.inl (fun _ => 0))))
  | .char => some (.inl (2, n, .inl (fun _ => 0)))
  | _ => none
def am_in (j : Int32) (n : Nat) : Bool := decide (¬ (j < 0 ∨ n ≤ j.toNatClampNeg))
/-- an instruction that is neither call nor return, and makes no cell -/
def am_one (E : am_Env) (M : am_M) (i : Instr) (pc : Nat) (ls : am_L) (st : List Value) (hp : am_H) : Option am_C := match i with
  | .iconst k => some (pc + 1, ls, .int (Int32.ofInt k) :: st, hp)
  | .bipush k => some (pc + 2, ls, .int (Int8.ofInt k).toInt32 :: st, hp)
  | .sipush k => some (pc + 3, ls, .int (Int16.ofInt k).toInt32 :: st, hp)
  | .lconst k => some (pc + 1, ls, .long (Int64.ofNat (k : Nat)) :: st, hp)
  | .iload_n k => match am_ld k ls with
    | some (.int x) => some (pc + 1, ls, .int x :: st, hp)
    | _ => none
  | .iload k => match am_ld k ls with
    | some (.int x) => some (pc + 2, ls, .int x :: st, hp)
    | _ => none
  | .lload_n k => match am_ld k ls with
    | some (.long x) => some (pc + 1, ls, .long x :: st, hp)
    | _ => none
  | .lload k => match am_ld k ls with
    | some (.long x) => some (pc + 2, ls, .long x :: st, hp)
    | _ => none
  | .aload_n k => match am_ld k ls with
    | some (.ref x) => some (pc + 1, ls, .ref x :: st, hp)
    | _ => none
  | .aload k => match am_ld k ls with
    | some (.ref x) => some (pc + 2, ls, .ref x :: st, hp)
    | _ => none
  | .istore_n k => match st with
    | .int x :: r => if (k : Nat) < am_ml M then some (pc + 1, am_s1 k (.int x) ls, r, hp) else none
    | _ => none
  | .istore k => match st with
    | .int x :: r => if k < am_ml M then some (pc + 2, am_s1 k (.int x) ls, r, hp) else none
    | _ => none
  | .lstore_n k => match st with
    | .long x :: r => if (k : Nat) + 1 < am_ml M then some (pc + 1, am_s2 k (.long x) ls, r, hp) else none
    | _ => none
  | .lstore k => match st with
    | .long x :: r => if k + 1 < am_ml M then some (pc + 2, am_s2 k (.long x) ls, r, hp) else none
    | _ => none
  | .astore_n k => match st with
    | .ref x :: r => if (k : Nat) < am_ml M then some (pc + 1, am_s1 k (.ref x) ls, r, hp) else none
    | _ => none
  | .astore k => match st with
    | .ref x :: r => if k < am_ml M then some (pc + 2, am_s1 k (.ref x) ls, r, hp) else none
    | _ => none
  | .iinc k n => match am_ld k ls with
    | some (.int x) => if k < am_ml M then some (pc + 3, am_s1 k (.int (x + Int32.ofInt n)) ls, st, hp) else none
    | _ => none
  | .iadd | .isub | .imul | .iand | .ior | .ixor | .ishl | .ishr | .iushr | .idiv | .irem => match st with
    | .int y :: .int x :: r => match am_i2 i x y with
      | some z => some (pc + 1, ls, .int z :: r, hp)
      | none => none
    | _ => none
  | .ladd | .lsub | .lmul | .land | .lor | .ldiv | .lrem => match st with
    | .long y :: .long x :: r => match am_l2 i x y with
      | some z => some (pc + 1, ls, .long z :: r, hp)
      | none => none
    | _ => none
  | .lshl => match st with
    | .int y :: .long x :: r => some (pc + 1, ls, .long (x <<< (y.toInt64 &&& 63)) :: r, hp)
    | _ => none
  | .lshr => match st with
    | .int y :: .long x :: r => some (pc + 1, ls, .long (x >>> (y.toInt64 &&& 63)) :: r, hp)
    | _ => none
  | .lcmp => match st with
    | .long y :: .long x :: r => some (pc + 1, ls, .int (lg_cmp x y) :: r, hp)
    | _ => none
  | .i2l => match st with
    | .int x :: r => some (pc + 1, ls, .long x.toInt64 :: r, hp)
    | _ => none
  | .l2i => match st with
    | .long x :: r => some (pc + 1, ls, .int x.toInt32 :: r, hp)
    | _ => none
  | .i2c => match st with
    | .int x :: r => some (pc + 1, ls, .int (x.toUInt32 % 65536).toInt32 :: r, hp)
    | _ => none
  | .dup => match st with
    | v :: r => if v.category = 1 then some (pc + 1, ls, v :: v :: r, hp) else none
    | _ => none
  | .pop => match st with
    | v :: r => if v.category = 1 then some (pc + 1, ls, r, hp) else none
    | _ => none
  | .dup2 => match st with
    | v :: w :: r => if v.category = 1 ∧ w.category = 1 then some (pc + 1, ls, v :: w :: v :: w :: r, hp) else if v.category = 2 then some (pc + 1, ls, v :: v :: w :: r, hp) else none
    | [v] => if v.category = 2 then some (pc + 1, ls, [v, v], hp) else none
    | _ => none
  | .ifCond cd off => match st, am_to pc off with
    | .int x :: r, some t => some (if am_cc2 cd x 0 = true then t else pc + 3, ls, r, hp)
    | _, _ => none
  | .if_icmp cd off => match st, am_to pc off with
    | .int y :: .int x :: r, some t => some (if am_cc2 cd x y = true then t else pc + 3, ls, r, hp)
    | _, _ => none
  | .goto off => match am_to pc off with
    | some t => some (t, ls, st, hp)
    | none => none
  | .tableswitch dflt lo hi offs => match st with
    | .int x :: r => if x.toInt < lo ∨ hi < x.toInt then (match am_to pc dflt with | some t => some (t, ls, r, hp) | none => none) else (match offs[(x.toInt - lo).toNat]? with
      | some off => (match am_to pc off with | some t => some (t, ls, r, hp) | none => none)
      | none => none)
    | _ => none
  | .lookupswitch dflt ps => match st with
    | .int x :: r => if (ps.toList.zip (ps.toList.drop 1)).all (fun (a, next) => a.1 < next.1) = true then (match am_to pc (Op.lookupswitch.offset ps.toList dflt x.toInt) with | some t => some (t, ls, r, hp) | none => none) else none
    | _ => none
  | .getfield x => match st, am_pl (am_o M) x with
    | .ref a :: r, some (0, ci, k) => if a < 1000000 then (match hp[a]? with
      | some (.inr (cj, fs)) => if cj = ci then (match fs[k]? with | some v => some (pc + 3, ls, v :: r, hp) | none => none) else none
      | _ => none) else none
    | .ref a :: r, some (12, _, _) => if 1000000 ≤ a ∧ (a - 1000000) % 2 = 0 ∧ (a - 1000000) / 2 < am_lit.length then some (pc + 3, ls, .ref (a + 1) :: r, hp) else none
    | .ref a :: r, some (13, _, _) => if 1000000 ≤ a ∧ (a - 1000000) % 2 = 0 ∧ (a - 1000000) / 2 < am_lit.length then some (pc + 3, ls, .int 0 :: r, hp) else none
    | _, _ => none
  | .putfield x => match st, am_pl (am_o M) x with
    | v :: .ref a :: r, some (0, ci, k) => if a < 1000000 then (match hp[a]?, am_cl[ci]?, am_cy[ci]? with
      | some (.inr (cj, fs)), some q, some ty => if cj = ci ∧ k < fs.length ∧ am_fit (ty k) v = true ∧ (am_ini M = true ∧ (q.2.1 k).1 = am_n (am_o M) ∨ (q.2.1 k).2.2.2 = false) then some (pc + 3, ls, r, hp.set a (.inr (ci, fs.set k v))) else none
      | _, _, _ => none) else none
    | _, _ => none
  | .getstatic x => match am_pl (am_o M) x with
    | some (11, _, _) => some (pc + 3, ls, .int 1 :: st, hp)
    | some (17, _, _) => some (pc + 3, ls, .ref 2000000 :: st, hp)
    | _ => none
  | .ldc x => match am_pl (am_o M) x with
    | some (10, j, _) => some (pc + 2, ls, .ref (1000000 + 2 * j) :: st, hp)
    | _ => none
  | .ldc_w x => match am_pl (am_o M) x with
    | some (15, j, _) => match am_ints[j]? with
      | some v => some (pc + 3, ls, .int v :: st, hp)
      | none => none
    | _ => none
  | .ldc2_w x => match am_pl (am_o M) x with
    | some (16, j, _) => match am_lngs[j]? with
      | some v => some (pc + 3, ls, .long v :: st, hp)
      | none => none
    | _ => none
  | .iaload => match st with
    | .int j :: .ref a :: r => if a < 1000000 then (match hp[a]? with
      | some (.inl (0, n, .inl f)) => if am_in j n = true then some (pc + 1, ls, .int (f j.toNatClampNeg) :: r, hp) else none
      | _ => none) else (match E a with
      | some (0, n, f) => if am_in j n = true then some (pc + 1, ls, .int (f j.toNatClampNeg) :: r, hp) else none
      | _ => none)
    | _ => none
  | .laload => match st with
    | .int j :: .ref a :: r => if a < 1000000 then (match hp[a]? with
      | some (.inl (1, n, .inr (.inl f))) => if am_in j n = true then some (pc + 1, ls, .long (f j.toNatClampNeg) :: r, hp) else none
      | _ => none) else none
    | _ => none
  | .caload => match st with
    | .int j :: .ref a :: r => if a < 1000000 then (match hp[a]? with
      | some (.inl (2, n, .inl f)) => if am_in j n = true then some (pc + 1, ls, .int (f j.toNatClampNeg) :: r, hp) else none
      | _ => none) else none
    | _ => none
  | .aaload => match st with
    | .int j :: .ref a :: r => if a < 1000000 then (match hp[a]? with
      | some (.inl (3, n, .inr (.inr (.inr (.inr f))))) => if am_in j n = true then (match f j.toNatClampNeg with | some q => some (pc + 1, ls, .ref q :: r, hp) | none => none) else none
      | _ => none) else none
    | _ => none
  | .baload => match st with
    | .int j :: .ref a :: r => match E a with
      | some (4, n, f) => if 1000000 ≤ a ∧ am_in j n = true then some (pc + 1, ls, .int (f j.toNatClampNeg) :: r, hp) else none
      | _ => none
    | _ => none
  | .iastore => match st with
    | .int x :: .int j :: .ref a :: r => if a < 1000000 then (match hp[a]? with
      | some (.inl (0, n, .inl f)) => if am_in j n = true then some (pc + 1, ls, r, hp.set a (.inl (0, n, .inl (upd f j.toNatClampNeg x)))) else none
      | _ => none) else none
    | _ => none
  | .lastore => match st with
    | .long x :: .int j :: .ref a :: r => if a < 1000000 then (match hp[a]? with
      | some (.inl (1, n, .inr (.inl f))) => if am_in j n = true then some (pc + 1, ls, r, hp.set a (.inl (1, n, .inr (.inl (vp_updL f j.toNatClampNeg x))))) else none
      | _ => none) else none
    | _ => none
  | .castore => match st with
    | .int x :: .int j :: .ref a :: r => if a < 1000000 then (match hp[a]? with
      | some (.inl (2, n, .inl f)) => if am_in j n = true then some (pc + 1, ls, r, hp.set a (.inl (2, n, .inl (upd f j.toNatClampNeg (vp_nar .char x))))) else none
      | _ => none) else none
    | _ => none
  | .arraylength => match st with
    | .ref a :: r => if a < 1000000 then (match hp[a]? with
      | some (.inl (t, n, _)) => if t < 4 then some (pc + 1, ls, .int (Int32.ofNat n) :: r, hp) else none
      | _ => none) else (match E a with
      | some (_, n, _) => some (pc + 1, ls, .int (Int32.ofNat n) :: r, hp)
      | none => none)
    | _ => none
  | .invokestatic x => match st, am_pl (am_o M) x with
    | .int n :: .int dp :: .ref a :: .int sp :: .ref a0 :: r, some (8, _, _) => if a < 1000000 ∧ a0 < 1000000 then (match hp[a0]?, hp[a]? with
      | some (.inl (0, n0, .inl f)), some (.inl (0, n1, .inl g)) => if (¬ sp < 0) ∧ (¬ dp < 0) ∧ (¬ n < 0) ∧ sp.toNatClampNeg + n.toNatClampNeg ≤ n0 ∧ dp.toNatClampNeg + n.toNatClampNeg ≤ n1 ∧ (r.map fun v => v.category).sum ≤ 8 then some (pc + 3, ls, r, hp.set a (.inl (0, n1, .inl (va_cpy f g sp.toNatClampNeg dp.toNatClampNeg n.toNatClampNeg)))) else none
      | _, _ => none) else none
    | _, _ => none
  | .invokespecial x => match st, am_pl (am_o M) x with
    | .ref a :: r, some (7, _, _) => if (r.map fun v => v.category).sum ≤ 8 then some (pc + 3, ls, r, hp) else none
    | _, _ => none
  | _ => none
/-- an instruction that makes cells -/
def am_mk (M : am_M) (i : Instr) (pc : Nat) (ls : am_L) (st : List Value) (hp : am_H) : Option am_C := match i with
  | .new x => match am_pl (am_o M) x with
    | some (9, ci, _) => match am_new ci with
      | some fs => if hp.length < 1000000 then some (pc + 3, ls, .ref hp.length :: st, hp ++ [.inr (ci, fs)]) else none
      | none => none
    | _ => none
  | .newarray t => match st with
    | .int n :: r => if ¬ n < 0 ∧ n.toNatClampNeg ≤ 1000000 ∧ hp.length < 1000000 then (match am_na0 t n.toNatClampNeg with
      | some e => some (pc + 2, ls, .ref hp.length :: r, hp ++ [e])
      | none => none) else none
    | _ => none
  | .multianewarray x 2 => match st, am_pl (am_o M) x with
    | .int k :: .int n :: r, some (14, _, _) => if ¬ n < 0 ∧ ¬ k < 0 ∧ n.toNatClampNeg ≤ 1000 ∧ k.toNatClampNeg ≤ 1000 ∧ hp.length < 900000 then
        some (pc + 4, ls, .ref hp.length :: r, (hp ++ [.inl (3, n.toNatClampNeg, .inr (.inr (.inr (.inr (fun i => if i < n.toNatClampNeg then some (hp.length + 1 + i) else none)))))]) ++ List.replicate n.toNatClampNeg (.inl (0, k.toNatClampNeg, .inl (fun _ => 0)))) else none
    | _, _ => none
  | _ => none
/-- a return: the answer -/
def am_ret (M : am_M) (i : Instr) (st : List Value) : Option (Option Value) := match i with
  | .return_ => match st, am_rt M with
    | [], none => some none
    | _, _ => none
  | .ireturn => match st, am_rt M with
    | [.int x], some ty => if narrow ty (.int x) = .int x then some (some (.int x)) else none
    | _, _ => none
  | .lreturn => match st, am_rt M with
    | [.long x], some .long => some (some (.long x))
    | _, _ => none
  | .areturn => match st, am_rt M with
    | [.ref x], some (.object _) => some (some (.ref x))
    | [.ref x], some (.array _) => some (some (.ref x))
    | _, _ => none
  | _ => none
/-- a call: the number of the method called, whether an object takes it -/
def am_cal (M : am_M) (i : Instr) : Option (Nat × Bool) := match i with
  | .invokevirtual x => match am_pl (am_o M) x with
    | some (1, j, _) => some (j, true)
    | _ => none
  | .invokestatic x => match am_pl (am_o M) x with
    | some (2, j, _) => some (j, false)
    | some (5, j, _) => some (j, false)
    | _ => none
  | .invokespecial x => match am_pl (am_o M) x with
    | some (3, j, _) => some (j, true)
    | some (6, j, _) => some (j, true)
    | _ => none
  | _ => none
/-- is the object that takes a call one of the method's own class -/
def am_rcv (N : am_M) (as : List Value) (hp : am_H) : Bool := match as with
  | .ref a :: _ => if a < 1000000 then (match hp[a]? with
    | some (.inr (ci, _)) => decide (ci = am_o N)
    | _ => false) else decide (am_o N = 16 ∧ (a - 1000000) % 2 = 0 ∧ (a - 1000000) / 2 < am_lit.length)
  | _ => false
/-- the run of a method's body: its answer and the cells behind it; d bounds the depth of calls -/
def am_run (E : am_Env) : Nat → Nat → am_M → Nat → am_L → List Value → am_H → Option (Option Value × am_H)
  | 0, _, _, _, _, _, _ => none
  | fu + 1, d, M, pc, ls, st, hp => match (am_cd M).lookup pc with
    | none => none
    | some i => match am_ret M i st with
      | some r => some (r, hp)
      | none => match am_cal M i with
        | some (j, v) => match d, am_tab j with
          | d' + 1, some N => if am_na N ≤ st.length ∧ ((st.drop (am_na N)).map fun v => v.category).sum ≤ 8 ∧ (v = true → am_rcv N (st.take (am_na N)).reverse hp = true) ∧ (lg_sl (st.take (am_na N)).reverse).length ≤ am_ml N then
              (match am_run E fu d' N 0 (lv_args 0 (st.take (am_na N)).reverse) [] hp with
              | some (r, hp') => am_run E fu d M (pc + 3) ls (r.toList ++ st.drop (am_na N)) hp'
              | none => none) else none
          | _, _ => none
        | none => match am_one E M i pc ls st hp with
          | some (pc', ls', st', hp') => am_run E fu d M pc' ls' st' hp'
          | none => match am_mk M i pc ls st hp with
            | some (pc', ls', st', hp') => am_run E fu d M pc' ls' st' hp'
            | none => none
end
section
/-! the words behind the tables: each entry of a pool stands on words of lw_tbl, each row of code is what decode says -/
def am_G : List Cond := lw_tbl.filter goodWord
/-- a word by its place -/
def am_at (p : Nat) : Option Cond := (([k2_sels lw_privs, tables_1_1, tables_1_2, tables_1_3, tables_1_4, tables_1_5, tables_1_6, tables_1_7, tables_1_8, tables_1_9] : List (List Cond)).getD (p / 1000) [])[p % 1000]?
theorem am_at_mem {p : Nat} {w : Cond} (h : am_at p = some w) : w ∈ lw_tbl := by
  unfold am_at at h
  have h1 := List.mem_of_getElem? h
  generalize p / 1000 = k at h1
  unfold lw_tbl tables_1
  match k, h1 with
  | 0, h1 => exact List.mem_append_left _ h1
  | 1, h1 => exact List.mem_append_right _ (List.mem_append_left _ h1)
  | 2, h1 => exact List.mem_append_right _ (List.mem_append_right _ (List.mem_append_left _ h1))
  | 3, h1 => exact List.mem_append_right _ (List.mem_append_right _ (List.mem_append_right _ (List.mem_append_left _ h1)))
  | 4, h1 => exact List.mem_append_right _ (List.mem_append_right _ (List.mem_append_right _ (List.mem_append_right _ (List.mem_append_left _ h1))))
  | 5, h1 => exact List.mem_append_right _ (List.mem_append_right _ (List.mem_append_right _ (List.mem_append_right _ (List.mem_append_right _ (List.mem_append_left _ h1)))))
  | 6, h1 => exact List.mem_append_right _ (List.mem_append_right _ (List.mem_append_right _ (List.mem_append_right _ (List.mem_append_right _ (List.mem_append_right _ (List.mem_append_left _ h1))))))
  | 7, h1 => exact List.mem_append_right _ (List.mem_append_right _ (List.mem_append_right _ (List.mem_append_right _ (List.mem_append_right _ (List.mem_append_right _ (List.mem_append_right _ (List.mem_append_left _ h1)))))))
  | 8, h1 => exact List.mem_append_right _ (List.mem_append_right _ (List.mem_append_right _ (List.mem_append_right _ (List.mem_append_right _ (List.mem_append_right _ (List.mem_append_right _ (List.mem_append_right _ (List.mem_append_left _ h1))))))))
  | 9, h1 => exact List.mem_append_right _ (List.mem_append_right _ (List.mem_append_right _ (List.mem_append_right _ (List.mem_append_right _ (List.mem_append_right _ (List.mem_append_right _ (List.mem_append_right _ (List.mem_append_right _ (h1)))))))))
  | k + 10, h1 => simp at h1
theorem am_mem {i : Nat} {w : Cond} (h : am_at i = some w) (hg : goodWord w = true) : w ∈ am_G := List.mem_filter.mpr ⟨am_at_mem h, hg⟩
/-- the words that an entry needs -/
def am_ws (o x : Nat) (q : Nat × Nat × Nat) : List Cond := match q with
  | (0, ci, k) => match am_cl[ci]? with
    | some r => [.fieldLink (am_n o) x (r.2.1 k).1 (r.2.1 k).2.1 (r.2.1 k).2.2.1]
    | none => []
  | (1, j, _) => match am_tab j with
    | some N => [.methodLink (am_n o) x (am_y N), .instanceMethod (am_y N), .selects (am_y N).cls (am_y N) (am_y N), .initialized (am_y N).cls]
    | none => []
  | (2, j, _) => match am_tab j with
    | some N => [.methodLink (am_n o) x (am_y N), .static (am_y N), .initialized (am_y N).cls]
    | none => []
  | (3, j, _) => match am_tab j with
    | some N => [.methodLink (am_n o) x (am_y N), .instanceMethod (am_y N), .initialized (am_y N).cls]
    | none => []
  | (5, j, _) => match am_tab j with
    | some N => [.static (am_y N), .initialized (am_y N).cls]
    | none => []
  | (6, j, _) => match am_tab j with
    | some N => [.instanceMethod (am_y N), .initialized (am_y N).cls]
    | none => []
  | (7, _, _) => [.methodLink (am_n o) x objectInit, .instanceMethod objectInit]
  | (8, _, _) => [.methodLink (am_n o) x arraycopyName, .native arraycopyName, .static arraycopyName, .initialized "java/lang/System"]
  | (9, ci, _) => match am_cl[ci]? with
    | some r => [.classLink (am_n o) x r.1, .instantiable r.1 r.2.2, .initialized r.1]
    | none => []
  | (11, _, _) => [.fieldLink (am_n o) x "java/lang/String" "COMPACT_STRINGS" "Z"]
  | (12, _, _) => [.fieldLink (am_n o) x "java/lang/String" "value" "[B"]
  | (13, _, _) => [.fieldLink (am_n o) x "java/lang/String" "coder" "B"]
  | (14, _, _) => [.classLink (am_n o) x ("[" ++ (FieldType.array .int).toString)]
  | (15, j, _) => match am_ints[j]? with
    | some v => [.constant (am_n o) x v]
    | none => []
  | (16, j, _) => match am_lngs[j]? with
    | some v => [.constantLong (am_n o) x v]
    | none => []
  | _ => []
/-- what else must be so of a method that is called -/
def am_sdN (N : am_M) (n : Nat) : Bool := decide (plainFor (am_y N) = true ∧ (am_y N).cls ≠ "java/lang/invoke/MethodHandle" ∧ (am_y N).cls ≠ "java/lang/invoke/VarHandle" ∧ (parseMethodDescriptor (am_y N).desc).map (fun d => d.parameters.length) = some n ∧ am_n (am_o N) = (am_y N).cls ∧ am_ml N ≤ 20 ∧ (am_ini N = true → (am_y N).name = "<init>"))
def am_sd (o x : Nat) (q : Nat × Nat × Nat) : Bool := match q with
  | (0, ci, k) => match am_cl[ci]?, am_cy[ci]? with
    | some r, some _ => decide (k < r.2.2)
    | _, _ => false
  | (1, j, _) => match am_tab j with
    | some N => am_sdN N (am_na N - 1) && decide (0 < am_na N) && (decide (am_o N = 16) || match am_cl[am_o N]? with | some r => decide (r.1 = (am_y N).cls) | none => false)
    | none => false
  | (2, j, _) => match am_tab j with
    | some N => am_sdN N (am_na N)
    | none => false
  | (3, j, _) => match am_tab j with
    | some N => am_sdN N (am_na N - 1) && decide (0 < am_na N ∧ (am_y N).name = "<init>" ∧ am_rt N = none)
    | none => false
  | (5, j, b) => match am_tab j, am_nst[b]? with
    | some N, some w => am_sdN N (am_na N) && decide (w = .methodLinkNest (am_n o) x (am_y N) "LockOrchestra")
    | _, _ => false
  | (6, j, b) => match am_tab j, am_nst[b]? with
    | some N, some w => am_sdN N (am_na N - 1) && decide (0 < am_na N ∧ (am_y N).name = "<init>" ∧ am_rt N = none) && decide (w = .methodLinkNest (am_n o) x (am_y N) "LockOrchestra")
    | _, _ => false
  | (9, ci, _) => match am_cl[ci]?, am_cy[ci]? with
    | some _, some _ => true
    | _, _ => false
  | (10, j, _) => match am_lit[j]? with
    | some r => decide (r.1 = am_n o ∧ r.2.1 = x)
    | none => false
  | (17, _, _) => decide (am_n o = "LockOrchestra$Hall" ∧ x = 91)
  | _ => true
def am_ck1 (o : Nat) (e : (Nat × Nat × Nat × Nat) × List Nat) : Bool := decide ((am_ws o e.1.1 e.1.2).length = e.2.length) && ((am_ws o e.1.1 e.1.2).zip e.2).all (fun q => decide (am_at q.2 = some q.1) && goodWord q.1) && am_sd o e.1.1 e.1.2
def am_ckl (o : Nat) (l : List ((Nat × Nat × Nat × Nat) × List Nat)) : Bool := l.all (am_ck1 o)
theorem am_cut {o : Nat} {l : List ((Nat × Nat × Nat × Nat) × List Nat)} (b : Nat) (h1 : am_ckl o (l.take b) = true) (h2 : am_ckl o (l.drop b) = true) : am_ckl o l = true := by
  rw [← List.take_append_drop b l]
  unfold am_ckl at *
  rw [List.all_append, h1, h2]
  rfl
theorem am_ckl_ok {o x : Nat} {q : Nat × Nat × Nat} {p : List (Nat × Nat × Nat × Nat)} {qs : List (List Nat)} (h : am_ckl o (p.zip qs) = true) (hl : p.length = qs.length) (hm : (x, q) ∈ p) : (∀ w ∈ am_ws o x q, w ∈ am_G) ∧ am_sd o x q = true := by
  obtain ⟨i, hi⟩ := List.mem_iff_getElem?.mp hm
  have hlt : i < qs.length := by rw [← hl]; exact (List.getElem?_eq_some_iff.mp hi).1
  obtain ⟨ps, hps⟩ : ∃ ps, qs[i]? = some ps := ⟨_, List.getElem?_eq_getElem hlt⟩
  have hz : (p.zip qs)[i]? = some ((x, q), ps) := by rw [List.getElem?_zip_eq_some]; exact ⟨hi, hps⟩
  have h1 := List.all_eq_true.mp h _ (List.mem_of_getElem? hz)
  simp only [am_ck1, Bool.and_eq_true, decide_eq_true_eq] at h1
  obtain ⟨⟨h2, h3⟩, h4⟩ := h1
  refine ⟨fun w hw => ?_, h4⟩
  obtain ⟨k, hk⟩ := List.mem_iff_getElem?.mp hw
  have hkl : k < ps.length := by rw [← h2]; exact (List.getElem?_eq_some_iff.mp hk).1
  have hz2 : ((am_ws o x q).zip ps)[k]? = some (w, ps[k]) := by rw [List.getElem?_zip_eq_some]; exact ⟨hk, List.getElem?_eq_getElem hkl⟩
  have h5 := List.all_eq_true.mp h3 _ (List.mem_of_getElem? hz2)
  simp only [Bool.and_eq_true, decide_eq_true_eq] at h5
  exact am_mem h5.1 h5.2
theorem am_lkm {x : Nat} {q : Nat × Nat × Nat} : ∀ {l : List (Nat × Nat × Nat × Nat)}, l.lookup x = some q → (x, q) ∈ l
  | [], h => by simp at h
  | (y, r) :: t, h => by
    rw [List.lookup_cons] at h
    cases hxy : x == y with
    | true =>
      rw [hxy] at h
      have e1 : x = y := by simpa using hxy
      have e2 : r = q := by simpa using h
      rw [e1, e2]
      exact List.mem_cons_self
    | false =>
      rw [hxy] at h
      exact List.mem_cons_of_mem _ (am_lkm h)
/-- how long an instruction is; 0: it says itself -/
def am_ln (i : Instr) : Nat := match i with
  | .bipush _ | .iload _ | .lload _ | .aload _ | .istore _ | .lstore _ | .astore _ | .ldc _ | .newarray _ => 2
  | .sipush _ | .iinc _ _ | .ifCond _ _ | .if_icmp _ _ | .goto _ | .getfield _ | .putfield _ | .getstatic _ | .ldc_w _ | .ldc2_w _ | .invokevirtual _ | .invokespecial _ | .invokestatic _ | .new _ => 3
  | .multianewarray _ _ => 4
  | .tableswitch _ _ _ _ | .lookupswitch _ _ => 0
  | _ => 1
def am_okD1 (cc : ByteArray) (e : Nat × Instr) : Bool := match decode cc e.1 with
  | .ok (i, n) => decide (i = e.2) && (decide (am_ln i = 0) || decide (n = am_ln i))
  | .error _ => false
def am_okD (M : am_M) : Bool := (am_cd M).all (am_okD1 (am_cc M))
theorem am_okD1_ok {cc : ByteArray} {pc : Nat} {i : Instr} (h : am_okD1 cc (pc, i) = true) : ∃ n, decode cc pc = .ok (i, n) ∧ (am_ln i = 0 ∨ n = am_ln i) := by
  unfold am_okD1 at h
  cases hd : decode cc pc with
  | error e => rw [show (pc, i).1 = pc from rfl, hd] at h; cases h
  | ok r =>
    obtain ⟨j, n⟩ := r
    rw [show (pc, i).1 = pc from rfl, hd] at h
    simp only [Bool.and_eq_true, Bool.or_eq_true, decide_eq_true_eq] at h
    obtain ⟨rfl, h2⟩ := h
    exact ⟨n, rfl, h2⟩
theorem am_lkc {x : Nat} {q : Instr} : ∀ {l : List (Nat × Instr)}, l.lookup x = some q → (x, q) ∈ l
  | [], h => by simp at h
  | (y, r) :: t, h => by
    rw [List.lookup_cons] at h
    cases hxy : x == y with
    | true =>
      rw [hxy] at h
      have e1 : x = y := by simpa using hxy
      have e2 : r = q := by simpa using h
      rw [e1, e2]
      exact List.mem_cons_self
    | false =>
      rw [hxy] at h
      exact List.mem_cons_of_mem _ (am_lkc h)
theorem am_dec {M : am_M} (hM : am_okD M = true) {pc : Nat} {i : Instr} (h : (am_cd M).lookup pc = some i) : ∃ n, decode (am_cc M) pc = .ok (i, n) ∧ (am_ln i = 0 ∨ n = am_ln i) := am_okD1_ok (List.all_eq_true.mp hM _ (am_lkc h))
theorem am_cutD {cc : ByteArray} {l : List (Nat × Instr)} (b : Nat) (h1 : (l.take b).all (am_okD1 cc) = true) (h2 : (l.drop b).all (am_okD1 cc) = true) : l.all (am_okD1 cc) = true := by
  rw [← List.take_append_drop b l, List.all_append, h1, h2]
  rfl
def am_q0 : List (List Nat) := [[1106, 1028], [1107], [1108], [1109], [1110], [2098, 1001], [2095, 1001], [4010, 4012, 19, 1007], [4014, 4015, 1007], [4037, 4039, 20, 1007], [4041, 4042, 1007], [4049, 4050, 1007], [4052, 4053, 1007], [4017, 3238, 3239, 1012], [4018, 4019, 1020], [4024, 4025, 4026, 1012], [4028, 4029, 4030, 1012], [4032, 4033, 4034, 1012], [4044, 3055, 3056, 1012], [4045, 4046, 4047, 1012], [4055, 4056, 1007], [4066, 4067, 1014], [4069, 2118, 1014], [4070, 2121, 1014], [4058], [4059], [4060, 4061, 1014], [4063, 4064, 1014]]
theorem am_k0_0 : am_ckl 0 ((am_p0.zip am_q0).take 30) = true := by decide +kernel
theorem am_e0 : am_ckl 0 ((am_p0.zip am_q0).drop 30) = true := by decide +kernel
theorem am_k0 : am_ckl 0 (am_p0.zip am_q0) = true := (am_cut 30 am_k0_0 am_e0)
theorem am_lq0 : am_p0.length = am_q0.length := by decide +kernel
def am_q1 : List (List Nat) := [[1218, 1028], [1219, 1102, 1007], [1104, 1007], [1221], [1222], [1223], [1224], [1225], [1226], [1227], [1228], [1229], [1230], [1231], [1232], [1233], [1234], [1235], [2135, 2136, 2137, 1007], [2139, 2140, 1015], [3028, 3029, 3030, 1012], [3032, 2227, 2228, 1012], [2098, 1001], [3054, 3055, 3056, 1012], [2095, 1001], [], [4190, 4191, 4192, 1012], [3016, 3017, 3018, 1012], [4115, 4116, 4117, 1012], [4036, 3238, 3239, 1012], [4166, 4029, 4030, 1012], [4176, 4033, 4034, 1012], [4164, 4046, 4047, 1012], [4165, 4025, 4026, 1012], [4167, 4168, 4169, 1012], [4171, 4099, 4100, 1012], [4172, 4173, 4174, 1012], [4005, 4006, 4007, 1007]]
theorem am_k1_0 : am_ckl 1 ((am_p1.zip am_q1).take 30) = true := by decide +kernel
theorem am_k1_1 : am_ckl 1 (((am_p1.zip am_q1).drop 30).take 30) = true := by decide +kernel
theorem am_e1 : am_ckl 1 (((am_p1.zip am_q1).drop 30).drop 30) = true := by decide +kernel
theorem am_k1 : am_ckl 1 (am_p1.zip am_q1) = true := (am_cut 30 am_k1_0 (am_cut 30 am_k1_1 am_e1))
theorem am_lq1 : am_p1.length = am_q1.length := by decide +kernel
def am_q2 : List (List Nat) := [[1074, 1028], [1088], [1075, 1076, 1005], [1077, 1078, 1005], [1089], [2131, 2132, 2133, 1012], [2142, 2143, 2144, 1003], [2161, 2162, 2163, 1003], [], [2166, 2167, 2168, 1003], [2218, 2220, 2, 1004], [], [3059, 3061, 5, 1004], [], [3078, 3080, 7, 1004], [], [3181, 3183, 18, 1004], [], [3035, 3036, 3037, 1003], [3040, 3041, 3042, 1003], [3191, 3192, 3193, 1012], [3195, 3122, 3123, 1003], [2233, 2234, 2235, 1003], [3020, 3021, 3022, 1003], [2226, 2227, 2228, 1012], [3001, 2147, 2148, 1003], [3002, 3003, 3004, 1003], [3012, 3013, 3014, 1012], [3024, 3025, 3026, 1012], [3072, 3017, 3018, 1012], [2222, 2224, 3, 1004], [], [], [], [3046, 3047, 3048, 1003], [3050, 3051, 3052, 1012], [], [3064, 3065, 3066, 1003], [3068, 3070, 6, 1004], [3073, 3074, 3075, 1012], [], [3083, 3084, 3085, 1012], [3087, 3088, 3089, 1007], [3091, 3092, 3093, 1005], [3176, 3177, 3178, 1012], [], [3186, 3187, 3188, 1012]]
theorem am_k2_0 : am_ckl 2 ((am_p2.zip am_q2).take 30) = true := by decide +kernel
theorem am_k2_1 : am_ckl 2 (((am_p2.zip am_q2).drop 30).take 30) = true := by decide +kernel
theorem am_e2 : am_ckl 2 (((am_p2.zip am_q2).drop 30).drop 30) = true := by decide +kernel
theorem am_k2 : am_ckl 2 (am_p2.zip am_q2) = true := (am_cut 30 am_k2_0 (am_cut 30 am_k2_1 am_e2))
theorem am_lq2 : am_p2.length = am_q2.length := by decide +kernel
def am_q3 : List (List Nat) := [[1181, 1028], [1182], [1183], [1184], [5062, 2087, 2088, 1002], [5063, 2152, 2153, 1002], [5064, 3055, 3056, 1012], [5065, 4187, 4188, 1012], [2098, 1001], [5067, 2114, 2115, 1002], [2095, 1001], [5081, 4108, 4109, 1012], [5082, 4161, 4162, 1012], [5083, 4002, 4003, 1012]]
theorem am_k3_0 : am_ckl 3 ((am_p3.zip am_q3).take 30) = true := by decide +kernel
theorem am_e3 : am_ckl 3 ((am_p3.zip am_q3).drop 30) = true := by decide +kernel
theorem am_k3 : am_ckl 3 (am_p3.zip am_q3) = true := (am_cut 30 am_k3_0 am_e3)
theorem am_lq3 : am_p3.length = am_q3.length := by decide +kernel
def am_q4 : List (List Nat) := [[1168, 1028], [1169], [1170], [4146, 2087, 2088, 1002], [4147, 2152, 2153, 1002], [4148, 3055, 3056, 1012], [2098, 1001], [4150, 2114, 2115, 1002], [2095, 1001], [5029, 4156, 4157, 1009], [5044, 4108, 4109, 1012], [5045, 4161, 4162, 1012], [5030, 4112, 4113, 1012], [5031, 4019, 1020]]
theorem am_k4_0 : am_ckl 4 ((am_p4.zip am_q4).take 30) = true := by decide +kernel
theorem am_e4 : am_ckl 4 ((am_p4.zip am_q4).drop 30) = true := by decide +kernel
theorem am_k4 : am_ckl 4 (am_p4.zip am_q4) = true := (am_cut 30 am_k4_0 am_e4)
theorem am_lq4 : am_p4.length = am_q4.length := by decide +kernel
def am_q5 : List (List Nat) := [[1100, 1028], [1101, 1102, 1007], [1104, 1007], [1124], [1125], [1122], [1120, 1076, 1005], [1121, 1078, 1005], [1123], [5174, 2143, 2144, 1003], [5175, 2136, 2137, 1007], [5176, 5178, 30, 1006], [5187, 2234, 2235, 1003], [5188, 3092, 3093, 1005], [5189, 3129, 3130, 1005], [5190, 2162, 2163, 1003], [5191, 3021, 3022, 1003], [], [5181, 3047, 3048, 1003], [], [], [], [], [], [5196], [5197, 3029, 3030, 1012], [5198, 3088, 3089, 1007], [5199, 4006, 4007, 1007], [5200, 5202, 31, 1006], [5204, 4064, 1014], [5205, 4061, 1014]]
theorem am_k5_0 : am_ckl 5 ((am_p5.zip am_q5).take 30) = true := by decide +kernel
theorem am_k5_1 : am_ckl 5 (((am_p5.zip am_q5).drop 30).take 30) = true := by decide +kernel
theorem am_e5 : am_ckl 5 (((am_p5.zip am_q5).drop 30).drop 30) = true := by decide +kernel
theorem am_k5 : am_ckl 5 (am_p5.zip am_q5) = true := (am_cut 30 am_k5_0 (am_cut 30 am_k5_1 am_e5))
theorem am_lq5 : am_p5.length = am_q5.length := by decide +kernel
def am_q6 : List (List Nat) := [[1140, 1028], [1141], [1142], [1143], [1144], [1145], [1146], [1147], [4203, 2140, 1015], [4204, 4206, 21, 1008], [2095, 1001], [4210, 4212, 22, 1008], [4215, 3029, 3030, 1012], [4216, 4108, 4109, 1012], [4217, 4161, 4162, 1012], [2098, 1001], [4214, 4002, 4003, 1012], [4222, 4224, 23, 1008]]
theorem am_k6_0 : am_ckl 6 ((am_p6.zip am_q6).take 30) = true := by decide +kernel
theorem am_e6 : am_ckl 6 ((am_p6.zip am_q6).drop 30) = true := by decide +kernel
theorem am_k6 : am_ckl 6 (am_p6.zip am_q6) = true := (am_cut 30 am_k6_0 am_e6)
theorem am_lq6 : am_p6.length = am_q6.length := by decide +kernel
def am_q7 : List (List Nat) := [[1197, 1028], [1200], [1198], [1201], [1202], [1203], [2098, 1001], [2095, 1001], [5116, 3229, 3230, 1011], [5117, 2118, 1014], [5122, 5124, 28, 1011], [4137, 4072, 4073, 1011], [5126, 5128, 5127, 1021], [5097, 5099, 26, 1011], [5101, 5102, 1011]]
theorem am_k7_0 : am_ckl 7 ((am_p7.zip am_q7).take 30) = true := by decide +kernel
theorem am_e7 : am_ckl 7 ((am_p7.zip am_q7).drop 30) = true := by decide +kernel
theorem am_k7 : am_ckl 7 (am_p7.zip am_q7) = true := (am_cut 30 am_k7_0 am_e7)
theorem am_lq7 : am_p7.length = am_q7.length := by decide +kernel
def am_q8 : List (List Nat) := [[1035, 1028], [1036], [1037], [2117, 2118, 1014], [2120, 2121, 1014], [2104, 2106, 1, 1002], [2098, 1001]]
theorem am_k8_0 : am_ckl 8 ((am_p8.zip am_q8).take 30) = true := by decide +kernel
theorem am_e8 : am_ckl 8 ((am_p8.zip am_q8).drop 30) = true := by decide +kernel
theorem am_k8 : am_ckl 8 (am_p8.zip am_q8) = true := (am_cut 30 am_k8_0 am_e8)
theorem am_lq8 : am_p8.length = am_q8.length := by decide +kernel
def am_q9 : List (List Nat) := [[1080, 1028], [1081], [1082], [3095, 3097, 8, 1005], [], [3127, 3047, 3048, 1003], [3111, 3112, 3113, 1007], [3099, 3101, 9, 1005], [], [], [3104, 2167, 2168, 1003], [3105, 3107, 10, 1005], [3116, 3117, 3118, 1003], [3120, 3092, 3093, 1005], [3121, 3122, 3123, 1003], [], [3128, 3129, 3130, 1005], [3170, 3172, 17, 1005], [3132, 3134, 11, 1005], [3166, 3168, 16, 1005], [3136, 3138, 12, 1005], [3140, 3141, 3142, 1003], [3144, 3041, 3042, 1003], [], [3146, 3148, 13, 1005], [], [], [3152, 3154, 14, 1005], [], [3157, 3159, 15, 1005], [3109, 2234, 2235, 1003], [3110, 2147, 2148, 1003], [], [], [], [], []]
theorem am_k9_0 : am_ckl 9 ((am_p9.zip am_q9).take 30) = true := by decide +kernel
theorem am_k9_1 : am_ckl 9 (((am_p9.zip am_q9).drop 30).take 30) = true := by decide +kernel
theorem am_e9 : am_ckl 9 (((am_p9.zip am_q9).drop 30).drop 30) = true := by decide +kernel
theorem am_k9 : am_ckl 9 (am_p9.zip am_q9) = true := (am_cut 30 am_k9_0 (am_cut 30 am_k9_1 am_e9))
theorem am_lq9 : am_p9.length = am_q9.length := by decide +kernel
def am_q10 : List (List Nat) := [[1049, 1028], [1051], [1052], [1053], [1054], [1055], [1050], [2146, 2147, 2148, 1003], [2237, 2238, 2239, 1003], [2150, 2087, 2088, 1002], [2151, 2152, 2153, 1002], [2155, 2156, 1003], [2158, 2159, 1003], [2170, 2171, 2172, 1016], [2180, 2181, 2182, 1016], [], [3039, 2167, 2168, 1003], [3011, 2234, 2235, 1003], [3125, 3117, 3118, 1003], [3006, 3008, 4, 1003]]
theorem am_k10_0 : am_ckl 10 ((am_p10.zip am_q10).take 30) = true := by decide +kernel
theorem am_e10 : am_ckl 10 ((am_p10.zip am_q10).drop 30) = true := by decide +kernel
theorem am_k10 : am_ckl 10 (am_p10.zip am_q10) = true := (am_cut 30 am_k10_0 am_e10)
theorem am_lq10 : am_p10.length = am_q10.length := by decide +kernel
def am_q11 : List (List Nat) := [[1027, 1028], [1030, 1031, 1002], [1033, 1002], [2027], [1044, 1045, 1003], [1046, 1047, 1003], [2028], [1069, 1070, 1004], [1071, 1072, 1004], [2029], [1095, 1096, 1006], [1097, 1098, 1006], [2030], [1135, 1136, 1008], [1138, 1008], [2031], [1163, 1164, 1009], [1166, 1009], [2032], [1176, 1177, 1010], [1179, 1010], [2033], [1192, 1193, 1011], [1195, 1011], [2034], [2035], [2036], [2037], [2038], [1213, 1214, 1012], [1216, 1012], [2039], [2040], [2041], [2042], [2043], [2044], [2086, 2087, 2088, 1002], [2090, 2092, 0, 1001], [2100, 2101, 2102, 1002], [2113, 2114, 2115, 1002], [2127, 2128, 2129, 1004], [3196, 3197, 3198, 1012], [3200, 3201, 3202, 1011], [3205, 3206, 3207, 1010], [3214, 3021, 3022, 1003], [3215, 3216, 3217, 1003], [3223, 3029, 3030, 1012], [3224, 3225, 3226, 1012], [3228, 3229, 3230, 1011], [3233, 3234, 3235, 1011], [3237, 3238, 3239, 1012], [4001, 4002, 4003, 1012], [4071, 4072, 4073, 1011], [4075, 4076, 4077, 1010], [4079, 4080, 4081, 1011], [4087, 3055, 3056, 1012], [4088, 4089, 4090, 1012], [4096, 4025, 4026, 1012], [4097, 4029, 4030, 1012], [4098, 4099, 4100, 1012], [4102, 4033, 4034, 1012], [4107, 4108, 4109, 1012], [4111, 4112, 4113, 1012], [4119, 4046, 4047, 1012], [4128, 4116, 4117, 1012], [4133, 4134, 4135, 1011], [4142, 4143, 4144, 1009], [4151, 4152, 4153, 1009], [4155, 4156, 4157, 1009], [4160, 4161, 4162, 1012], [4177, 4019, 1020], [2097, 2098, 1001], [2094, 2095, 1001], [4186, 4187, 4188, 1012], [4194, 4195, 4196, 1008], [4198, 4191, 4192, 1012], [4199, 4200, 4201, 1008], [4218, 4219, 4220, 1008], [4230, 4231, 4232, 1008], [4238, 4239, 5000, 1008], [5002, 5003, 5004, 1008], [5010, 5011, 5012, 1008], [5014, 5015, 5016, 1008], [5018, 5019, 1001], [5025, 5026, 5027, 1009], [5036, 5038, 24, 1001], [5046, 5048, 25, 1001], [5058, 5059, 5060, 1010], [5072, 5073, 5074, 1012], [5076, 5077, 5078, 1010], [5088, 4168, 4169, 1012], [5093, 5094, 5095, 1011], [5104, 5106, 27, 1001], [5137, 5138, 5139, 1012], [5108, 5109, 5110, 1011], [5118, 5119, 5120, 1011], [5145, 5147, 29, 1001], [5153, 4173, 4174, 1012], [5158, 5159, 5160, 1011], [5170, 5171, 5172, 1006], [5192, 5193, 5194, 1006], [5206], [5211, 5212, 1001], [5222, 5224, 32, 1001], [5226, 2152, 2153, 1002], [5112, 5113, 5114, 1011], [5149], [5150], [5151], [5152], [5040, 5041, 5042, 1009]]
theorem am_k11_0 : am_ckl 11 ((am_p11.zip am_q11).take 30) = true := by decide +kernel
theorem am_k11_1 : am_ckl 11 (((am_p11.zip am_q11).drop 30).take 30) = true := by decide +kernel
theorem am_k11_2 : am_ckl 11 ((((am_p11.zip am_q11).drop 30).drop 30).take 30) = true := by decide +kernel
theorem am_k11_3 : am_ckl 11 (((((am_p11.zip am_q11).drop 30).drop 30).drop 30).take 30) = true := by decide +kernel
theorem am_e11 : am_ckl 11 (((((am_p11.zip am_q11).drop 30).drop 30).drop 30).drop 30) = true := by decide +kernel
theorem am_k11 : am_ckl 11 (am_p11.zip am_q11) = true := (am_cut 30 am_k11_0 (am_cut 30 am_k11_1 (am_cut 30 am_k11_2 (am_cut 30 am_k11_3 am_e11))))
theorem am_lq11 : am_p11.length = am_q11.length := by decide +kernel
def am_q12 : List (List Nat) := [[5236, 1028], [5237], [6005], [6006], [6007], [6008], [6009], [6010], [6011], [6012], [6013], [6014], [6015], [6016], [6017], [6018], [6019], [6020], [6021], [6022], [6023], [6024], [6025], [6026], [6028], [6029], [6030], [6031], [6032], [6033], [6034], [6035], [6036], [6040], [6041], [6042], [6048], [6049], [6050], [6051], [6053], [6054], [6056], [6057], [6060], [6061], [6062], [6063], [6064], [6065], [6066], [6067], [6068], [6069], [6070], [6071], [6072], [6073], [6074], [6075], [6076], [6077], [6078], [6079], [6080], [6082], [6086], [6090], [5238], [6002], [6003], [5239], [6000], [7057, 7059, 33, 1013], [7077, 7078, 1013], [6001], [7073, 7075, 37, 1013], [7069, 7071, 36, 1013], [7065, 7067, 35, 1013], [7172, 7174, 59, 1013], [7114, 7115, 1013], [7117, 7118, 1013], [7096, 7098, 42, 1013], [6027], [7100], [7101], [6039], [7092, 7094, 41, 1013], [7102, 7104, 43, 1013], [7084, 7086, 39, 1013], [7088, 7090, 40, 1013], [7106, 7108, 44, 1013], [7110, 7112, 45, 1013], [7124, 7126, 47, 1013], [6081], [6083], [6084], [6085], [7132, 7134, 49, 1013], [6037], [6038], [7080, 7082, 38, 1013], [7120, 7122, 46, 1013], [7128, 7130, 48, 1013], [7219, 7221, 70, 1013], [7168, 7170, 58, 1013], [7061, 7063, 34, 1013], [6004], [7223, 7225, 71, 1013], [6058], [6055], [6044], [7235, 7237, 72, 1013], [6087], [8011, 8013, 76, 1013], [8015, 8017, 77, 1013], [8036, 8037, 1013], [8041, 8043, 82, 1013], [8056, 8058, 85, 1013], [8003, 8005, 74, 1013], [8007, 8009, 75, 1013], [8019, 8021, 78, 1013], [8032, 8034, 81, 1013], [8052, 8054, 84, 1013], [8023, 8025, 79, 1013], [8048, 8050, 83, 1013], [8028, 8030, 80, 1013], [7239, 8001, 73, 1013], [8067], [8068], [8073, 8075, 86, 1013], [8094, 8096, 90, 1013], [8081, 8083, 87, 1013], [8085], [8086, 8088, 88, 1013], [8090, 8092, 89, 1013], [8110], [8119], [6043], [8115, 8117, 91, 1013], [8120, 8122, 92, 1013], [8124, 8126, 93, 1013], [6047], [8128, 8130, 94, 1013], [8045, 8046, 1013], [6045], [6046], [8132, 8134, 95, 1013], [8156, 8158, 99, 1013], [8168, 8170, 102, 1013], [8152, 8154, 98, 1013], [6052], [8160, 8162, 100, 1013], [8164, 8166, 101, 1013], [8172, 8174, 103, 1013], [8144, 8146, 96, 1013], [8148, 8150, 97, 1013], [8176, 8178, 104, 1013], [8200, 8201, 1013], [8196, 8198, 105, 1013], [8207, 8209, 106, 1013], [8223, 8225, 107, 1013], [6059], [9032], [9033], [9034], [9035], [9011, 9013, 110, 1013], [9003, 9005, 108, 1013], [9007, 9009, 109, 1013], [9027], [9028, 9030, 111, 1013], [7144, 7146, 52, 1013], [7196, 7197, 1013], [7184, 7186, 62, 1013], [7160, 7162, 56, 1013], [7164, 7166, 57, 1013], [7156, 7158, 55, 1013], [7136, 7138, 50, 1013], [7176, 7178, 60, 1013], [7180, 7182, 61, 1013], [7192, 7194, 64, 1013], [7199, 7201, 65, 1013], [7203, 7205, 66, 1013], [7152, 7154, 54, 1013], [7188, 7190, 63, 1013], [7148, 7150, 53, 1013], [7140, 7142, 51, 1013], [7207, 7209, 67, 1013], [7211, 7213, 68, 1013], [7215, 7217, 69, 1013], [8039], [8040], [8060, 8061, 1013], [8027], [6088], [6089], [9040, 9042, 112, 1013], [9044], [9045, 9047, 113, 1013], [9049, 9051, 114, 1013], [6091], [9057, 9059, 115, 1013], [9061, 9062, 1013], [9072, 9074, 116, 1013]]
theorem am_k12_0 : am_ckl 12 ((am_p12.zip am_q12).take 30) = true := by decide +kernel
theorem am_k12_1 : am_ckl 12 (((am_p12.zip am_q12).drop 30).take 30) = true := by decide +kernel
theorem am_k12_2 : am_ckl 12 ((((am_p12.zip am_q12).drop 30).drop 30).take 30) = true := by decide +kernel
theorem am_k12_3 : am_ckl 12 (((((am_p12.zip am_q12).drop 30).drop 30).drop 30).take 30) = true := by decide +kernel
theorem am_k12_4 : am_ckl 12 ((((((am_p12.zip am_q12).drop 30).drop 30).drop 30).drop 30).take 30) = true := by decide +kernel
theorem am_k12_5 : am_ckl 12 (((((((am_p12.zip am_q12).drop 30).drop 30).drop 30).drop 30).drop 30).take 30) = true := by decide +kernel
theorem am_k12_6 : am_ckl 12 ((((((((am_p12.zip am_q12).drop 30).drop 30).drop 30).drop 30).drop 30).drop 30).take 30) = true := by decide +kernel
theorem am_e12 : am_ckl 12 ((((((((am_p12.zip am_q12).drop 30).drop 30).drop 30).drop 30).drop 30).drop 30).drop 30) = true := by decide +kernel
theorem am_k12 : am_ckl 12 (am_p12.zip am_q12) = true := (am_cut 30 am_k12_0 (am_cut 30 am_k12_1 (am_cut 30 am_k12_2 (am_cut 30 am_k12_3 (am_cut 30 am_k12_4 (am_cut 30 am_k12_5 (am_cut 30 am_k12_6 am_e12)))))))
theorem am_lq12 : am_p12.length = am_q12.length := by decide +kernel
def am_q13 : List (List Nat) := [[1022, 1023, 1001], [1024, 1025, 1001], [5231, 5232, 1013], [5233, 5234, 1013], [2082, 2083, 2084, 1001], [7045, 7046, 7047, 1013], [2109, 2110, 2111, 1001], [7049, 7050, 7051, 1013], [2123, 2124, 2125, 1001], [7053, 7054, 7055, 1013], [3210, 3211, 3212, 1001], [7227, 7228, 7229, 1013], [3219, 3220, 3221, 1001], [7231, 7232, 7233, 1013], [4083, 4084, 4085, 1001], [8063, 8064, 8065, 1013], [4092, 4093, 4094, 1001], [8069, 8070, 8071, 1013], [4103, 4104, 4105, 1001], [8077, 8078, 8079, 1013], [4120, 4121, 4122, 1001], [8098, 8099, 8100, 1013], [4124, 4125, 4126, 1001], [8102, 8103, 8104, 1013], [4129, 4130, 4131, 1001], [8106, 8107, 8108, 1013], [4138, 4139, 4140, 1001], [8111, 8112, 8113, 1013], [4178, 4179, 4180, 1001], [8136, 8137, 8138, 1013], [4182, 4183, 4184, 1001], [8140, 8141, 8142, 1013], [4226, 4227, 4228, 1001], [8180, 8181, 8182, 1013], [4234, 4235, 4236, 1001], [8184, 8185, 8186, 1013], [5006, 5007, 5008, 1001], [8188, 8189, 8190, 1013], [5021, 5022, 5023, 1001], [8192, 8193, 8194, 1013], [5032, 5033, 5034, 1001], [8203, 8204, 8205, 1013], [5050, 5051, 5052, 1001], [8211, 8212, 8213, 1013], [5054, 5055, 5056, 1001], [8215, 8216, 8217, 1013], [5068, 5069, 5070, 1001], [8219, 8220, 8221, 1013], [5084, 5085, 5086, 1001], [8227, 8228, 8229, 1013], [5089, 5090, 5091, 1001], [8239, 9000, 9001, 1013], [5129, 5130, 5131, 1001], [9015, 9016, 9017, 1013], [5133, 5134, 5135, 1001], [9019, 9020, 9021, 1013], [5141, 5142, 5143, 1001], [9023, 9024, 9025, 1013], [5154, 5155, 5156, 1001], [8231, 8232, 8233, 1013], [5162, 5163, 5164, 1001], [8235, 8236, 8237, 1013], [5166, 5167, 5168, 1001], [9036, 9037, 9038, 1013], [5207, 5208, 5209, 1001], [9053, 9054, 9055, 1013], [5214, 5215, 5216, 1001], [9064, 9065, 9066, 1013], [5218, 5219, 5220, 1001], [9068, 9069, 9070, 1013], [5227, 5228, 5229, 1001], [9076, 9077, 9078, 1013]]
theorem am_k13_0 : am_ckl 13 ((am_p13.zip am_q13).take 30) = true := by decide +kernel
theorem am_k13_1 : am_ckl 13 (((am_p13.zip am_q13).drop 30).take 30) = true := by decide +kernel
theorem am_k13_2 : am_ckl 13 ((((am_p13.zip am_q13).drop 30).drop 30).take 30) = true := by decide +kernel
theorem am_e13 : am_ckl 13 ((((am_p13.zip am_q13).drop 30).drop 30).drop 30) = true := by decide +kernel
theorem am_k13 : am_ckl 13 (am_p13.zip am_q13) = true := (am_cut 30 am_k13_0 (am_cut 30 am_k13_1 (am_cut 30 am_k13_2 am_e13)))
theorem am_lq13 : am_p13.length = am_q13.length := by decide +kernel
def am_q14 : List (List Nat) := [[4021], [4022], [4023]]
theorem am_k14_0 : am_ckl 14 ((am_p14.zip am_q14).take 30) = true := by decide +kernel
theorem am_e14 : am_ckl 14 ((am_p14.zip am_q14).drop 30) = true := by decide +kernel
theorem am_k14 : am_ckl 14 (am_p14.zip am_q14) = true := (am_cut 30 am_k14_0 am_e14)
theorem am_lq14 : am_p14.length = am_q14.length := by decide +kernel
def am_q15 : List (List Nat) := []
theorem am_e15 : am_ckl 15 (am_p15.zip am_q15) = true := by decide +kernel
theorem am_k15 : am_ckl 15 (am_p15.zip am_q15) = true := am_e15
theorem am_lq15 : am_p15.length = am_q15.length := by decide +kernel
def am_q16 : List (List Nat) := [[9080], [9081], [2178], [2174, 2175, 2176, 1016], [2184, 2185, 2186, 1016], [2188, 2189, 1017]]
theorem am_k16_0 : am_ckl 16 ((am_p16.zip am_q16).take 30) = true := by decide +kernel
theorem am_e16 : am_ckl 16 ((am_p16.zip am_q16).drop 30) = true := by decide +kernel
theorem am_k16 : am_ckl 16 (am_p16.zip am_q16) = true := (am_cut 30 am_k16_0 am_e16)
theorem am_lq16 : am_p16.length = am_q16.length := by decide +kernel
def am_q17 : List (List Nat) := []
theorem am_e17 : am_ckl 17 (am_p17.zip am_q17) = true := by decide +kernel
theorem am_k17 : am_ckl 17 (am_p17.zip am_q17) = true := am_e17
theorem am_lq17 : am_p17.length = am_q17.length := by decide +kernel
def am_q18 : List (List Nat) := []
theorem am_e18 : am_ckl 18 (am_p18.zip am_q18) = true := by decide +kernel
theorem am_k18 : am_ckl 18 (am_p18.zip am_q18) = true := am_e18
theorem am_lq18 : am_p18.length = am_q18.length := by decide +kernel
theorem am_pl_ok {o x : Nat} {q : Nat × Nat × Nat} (h : am_pl o x = some q) : (∀ w ∈ am_ws o x q, w ∈ am_G) ∧ am_sd o x q = true := by
  have h1 : (x, q) ∈ am_pool.getD o [] := am_lkm h
  match o, h1 with
  | 0, h1 => exact am_ckl_ok am_k0 am_lq0 h1
  | 1, h1 => exact am_ckl_ok am_k1 am_lq1 h1
  | 2, h1 => exact am_ckl_ok am_k2 am_lq2 h1
  | 3, h1 => exact am_ckl_ok am_k3 am_lq3 h1
  | 4, h1 => exact am_ckl_ok am_k4 am_lq4 h1
  | 5, h1 => exact am_ckl_ok am_k5 am_lq5 h1
  | 6, h1 => exact am_ckl_ok am_k6 am_lq6 h1
  | 7, h1 => exact am_ckl_ok am_k7 am_lq7 h1
  | 8, h1 => exact am_ckl_ok am_k8 am_lq8 h1
  | 9, h1 => exact am_ckl_ok am_k9 am_lq9 h1
  | 10, h1 => exact am_ckl_ok am_k10 am_lq10 h1
  | 11, h1 => exact am_ckl_ok am_k11 am_lq11 h1
  | 12, h1 => exact am_ckl_ok am_k12 am_lq12 h1
  | 13, h1 => exact am_ckl_ok am_k13 am_lq13 h1
  | 14, h1 => exact am_ckl_ok am_k14 am_lq14 h1
  | 15, h1 => exact am_ckl_ok am_k15 am_lq15 h1
  | 16, h1 => exact am_ckl_ok am_k16 am_lq16 h1
  | 17, h1 => exact am_ckl_ok am_k17 am_lq17 h1
  | 18, h1 => exact am_ckl_ok am_k18 am_lq18 h1
  | o + 19, h1 => simp [am_pool] at h1
end
section
set_option maxRecDepth 20000 in
theorem am_c0 : am_at 1105 = some (Cond.code (am_y am_m0) (am_cc am_m0) (am_ml am_m0) (am_rt am_m0)) := rfl
set_option maxRecDepth 20000 in
theorem am_c1 : am_at 2138 = some (Cond.code (am_y am_m1) (am_cc am_m1) (am_ml am_m1) (am_rt am_m1)) := rfl
set_option maxRecDepth 20000 in
theorem am_c2 : am_at 3090 = some (Cond.code (am_y am_m2) (am_cc am_m2) (am_ml am_m2) (am_rt am_m2)) := rfl
set_option maxRecDepth 20000 in
theorem am_c3 : am_at 3114 = some (Cond.code (am_y am_m3) (am_cc am_m3) (am_ml am_m3) (am_rt am_m3)) := rfl
set_option maxRecDepth 20000 in
theorem am_c4 : am_at 4008 = some (Cond.code (am_y am_m4) (am_cc am_m4) (am_ml am_m4) (am_rt am_m4)) := rfl
set_option maxRecDepth 20000 in
theorem am_c5 : am_at 4013 = some (Cond.code (am_y am_m5) (am_cc am_m5) (am_ml am_m5) (am_rt am_m5)) := rfl
set_option maxRecDepth 20000 in
theorem am_c6 : am_at 4016 = some (Cond.code (am_y am_m6) (am_cc am_m6) (am_ml am_m6) (am_rt am_m6)) := rfl
set_option maxRecDepth 20000 in
theorem am_c7 : am_at 4040 = some (Cond.code (am_y am_m7) (am_cc am_m7) (am_ml am_m7) (am_rt am_m7)) := rfl
set_option maxRecDepth 20000 in
theorem am_c8 : am_at 4043 = some (Cond.code (am_y am_m8) (am_cc am_m8) (am_ml am_m8) (am_rt am_m8)) := rfl
set_option maxRecDepth 20000 in
theorem am_c9 : am_at 4051 = some (Cond.code (am_y am_m9) (am_cc am_m9) (am_ml am_m9) (am_rt am_m9)) := rfl
set_option maxRecDepth 20000 in
theorem am_c10 : am_at 4054 = some (Cond.code (am_y am_m10) (am_cc am_m10) (am_ml am_m10) (am_rt am_m10)) := rfl
set_option maxRecDepth 20000 in
theorem am_c11 : am_at 4057 = some (Cond.code (am_y am_m11) (am_cc am_m11) (am_ml am_m11) (am_rt am_m11)) := rfl
set_option maxRecDepth 20000 in
theorem am_c12 : am_at 1217 = some (Cond.code (am_y am_m12) (am_cc am_m12) (am_ml am_m12) (am_rt am_m12)) := rfl
set_option maxRecDepth 20000 in
theorem am_c13 : am_at 2134 = some (Cond.code (am_y am_m13) (am_cc am_m13) (am_ml am_m13) (am_rt am_m13)) := rfl
set_option maxRecDepth 20000 in
theorem am_c14 : am_at 2229 = some (Cond.code (am_y am_m14) (am_cc am_m14) (am_ml am_m14) (am_rt am_m14)) := rfl
set_option maxRecDepth 20000 in
theorem am_c15 : am_at 3015 = some (Cond.code (am_y am_m15) (am_cc am_m15) (am_ml am_m15) (am_rt am_m15)) := rfl
set_option maxRecDepth 20000 in
theorem am_c16 : am_at 3019 = some (Cond.code (am_y am_m16) (am_cc am_m16) (am_ml am_m16) (am_rt am_m16)) := rfl
set_option maxRecDepth 20000 in
theorem am_c17 : am_at 3027 = some (Cond.code (am_y am_m17) (am_cc am_m17) (am_ml am_m17) (am_rt am_m17)) := rfl
set_option maxRecDepth 20000 in
theorem am_c18 : am_at 3031 = some (Cond.code (am_y am_m18) (am_cc am_m18) (am_ml am_m18) (am_rt am_m18)) := rfl
set_option maxRecDepth 20000 in
theorem am_c19 : am_at 3053 = some (Cond.code (am_y am_m19) (am_cc am_m19) (am_ml am_m19) (am_rt am_m19)) := rfl
set_option maxRecDepth 20000 in
theorem am_c20 : am_at 3057 = some (Cond.code (am_y am_m20) (am_cc am_m20) (am_ml am_m20) (am_rt am_m20)) := rfl
set_option maxRecDepth 20000 in
theorem am_c21 : am_at 3076 = some (Cond.code (am_y am_m21) (am_cc am_m21) (am_ml am_m21) (am_rt am_m21)) := rfl
set_option maxRecDepth 20000 in
theorem am_c22 : am_at 3086 = some (Cond.code (am_y am_m22) (am_cc am_m22) (am_ml am_m22) (am_rt am_m22)) := rfl
set_option maxRecDepth 20000 in
theorem am_c23 : am_at 3179 = some (Cond.code (am_y am_m23) (am_cc am_m23) (am_ml am_m23) (am_rt am_m23)) := rfl
set_option maxRecDepth 20000 in
theorem am_c24 : am_at 3189 = some (Cond.code (am_y am_m24) (am_cc am_m24) (am_ml am_m24) (am_rt am_m24)) := rfl
set_option maxRecDepth 20000 in
theorem am_c25 : am_at 3194 = some (Cond.code (am_y am_m25) (am_cc am_m25) (am_ml am_m25) (am_rt am_m25)) := rfl
set_option maxRecDepth 20000 in
theorem am_c26 : am_at 3199 = some (Cond.code (am_y am_m26) (am_cc am_m26) (am_ml am_m26) (am_rt am_m26)) := rfl
set_option maxRecDepth 20000 in
theorem am_c27 : am_at 3227 = some (Cond.code (am_y am_m27) (am_cc am_m27) (am_ml am_m27) (am_rt am_m27)) := rfl
set_option maxRecDepth 20000 in
theorem am_c28 : am_at 4000 = some (Cond.code (am_y am_m28) (am_cc am_m28) (am_ml am_m28) (am_rt am_m28)) := rfl
set_option maxRecDepth 20000 in
theorem am_c29 : am_at 4004 = some (Cond.code (am_y am_m29) (am_cc am_m29) (am_ml am_m29) (am_rt am_m29)) := rfl
set_option maxRecDepth 20000 in
theorem am_c30 : am_at 4027 = some (Cond.code (am_y am_m30) (am_cc am_m30) (am_ml am_m30) (am_rt am_m30)) := rfl
set_option maxRecDepth 20000 in
theorem am_c31 : am_at 4031 = some (Cond.code (am_y am_m31) (am_cc am_m31) (am_ml am_m31) (am_rt am_m31)) := rfl
set_option maxRecDepth 20000 in
theorem am_c32 : am_at 4035 = some (Cond.code (am_y am_m32) (am_cc am_m32) (am_ml am_m32) (am_rt am_m32)) := rfl
set_option maxRecDepth 20000 in
theorem am_c33 : am_at 4048 = some (Cond.code (am_y am_m33) (am_cc am_m33) (am_ml am_m33) (am_rt am_m33)) := rfl
set_option maxRecDepth 20000 in
theorem am_c34 : am_at 4091 = some (Cond.code (am_y am_m34) (am_cc am_m34) (am_ml am_m34) (am_rt am_m34)) := rfl
set_option maxRecDepth 20000 in
theorem am_c35 : am_at 4101 = some (Cond.code (am_y am_m35) (am_cc am_m35) (am_ml am_m35) (am_rt am_m35)) := rfl
set_option maxRecDepth 20000 in
theorem am_c36 : am_at 4110 = some (Cond.code (am_y am_m36) (am_cc am_m36) (am_ml am_m36) (am_rt am_m36)) := rfl
set_option maxRecDepth 20000 in
theorem am_c37 : am_at 4114 = some (Cond.code (am_y am_m37) (am_cc am_m37) (am_ml am_m37) (am_rt am_m37)) := rfl
set_option maxRecDepth 20000 in
theorem am_c38 : am_at 4118 = some (Cond.code (am_y am_m38) (am_cc am_m38) (am_ml am_m38) (am_rt am_m38)) := rfl
set_option maxRecDepth 20000 in
theorem am_c39 : am_at 4163 = some (Cond.code (am_y am_m39) (am_cc am_m39) (am_ml am_m39) (am_rt am_m39)) := rfl
set_option maxRecDepth 20000 in
theorem am_c40 : am_at 4170 = some (Cond.code (am_y am_m40) (am_cc am_m40) (am_ml am_m40) (am_rt am_m40)) := rfl
set_option maxRecDepth 20000 in
theorem am_c41 : am_at 4175 = some (Cond.code (am_y am_m41) (am_cc am_m41) (am_ml am_m41) (am_rt am_m41)) := rfl
set_option maxRecDepth 20000 in
theorem am_c42 : am_at 4189 = some (Cond.code (am_y am_m42) (am_cc am_m42) (am_ml am_m42) (am_rt am_m42)) := rfl
set_option maxRecDepth 20000 in
theorem am_c43 : am_at 4193 = some (Cond.code (am_y am_m43) (am_cc am_m43) (am_ml am_m43) (am_rt am_m43)) := rfl
set_option maxRecDepth 20000 in
theorem am_c44 : am_at 5075 = some (Cond.code (am_y am_m44) (am_cc am_m44) (am_ml am_m44) (am_rt am_m44)) := rfl
set_option maxRecDepth 20000 in
theorem am_c45 : am_at 5140 = some (Cond.code (am_y am_m45) (am_cc am_m45) (am_ml am_m45) (am_rt am_m45)) := rfl
set_option maxRecDepth 20000 in
theorem am_c46 : am_at 1073 = some (Cond.code (am_y am_m46) (am_cc am_m46) (am_ml am_m46) (am_rt am_m46)) := rfl
set_option maxRecDepth 20000 in
theorem am_c47 : am_at 2130 = some (Cond.code (am_y am_m47) (am_cc am_m47) (am_ml am_m47) (am_rt am_m47)) := rfl
set_option maxRecDepth 20000 in
theorem am_c48 : am_at 2221 = some (Cond.code (am_y am_m48) (am_cc am_m48) (am_ml am_m48) (am_rt am_m48)) := rfl
set_option maxRecDepth 20000 in
theorem am_c49 : am_at 2225 = some (Cond.code (am_y am_m49) (am_cc am_m49) (am_ml am_m49) (am_rt am_m49)) := rfl
set_option maxRecDepth 20000 in
theorem am_c50 : am_at 3062 = some (Cond.code (am_y am_m50) (am_cc am_m50) (am_ml am_m50) (am_rt am_m50)) := rfl
set_option maxRecDepth 20000 in
theorem am_c51 : am_at 3071 = some (Cond.code (am_y am_m51) (am_cc am_m51) (am_ml am_m51) (am_rt am_m51)) := rfl
set_option maxRecDepth 20000 in
theorem am_c52 : am_at 3081 = some (Cond.code (am_y am_m52) (am_cc am_m52) (am_ml am_m52) (am_rt am_m52)) := rfl
set_option maxRecDepth 20000 in
theorem am_c53 : am_at 3184 = some (Cond.code (am_y am_m53) (am_cc am_m53) (am_ml am_m53) (am_rt am_m53)) := rfl
set_option maxRecDepth 20000 in
theorem am_c54 : am_at 1180 = some (Cond.code (am_y am_m54) (am_cc am_m54) (am_ml am_m54) (am_rt am_m54)) := rfl
set_option maxRecDepth 20000 in
theorem am_c55 : am_at 3208 = some (Cond.code (am_y am_m55) (am_cc am_m55) (am_ml am_m55) (am_rt am_m55)) := rfl
set_option maxRecDepth 20000 in
theorem am_c56 : am_at 4078 = some (Cond.code (am_y am_m56) (am_cc am_m56) (am_ml am_m56) (am_rt am_m56)) := rfl
set_option maxRecDepth 20000 in
theorem am_c57 : am_at 5061 = some (Cond.code (am_y am_m57) (am_cc am_m57) (am_ml am_m57) (am_rt am_m57)) := rfl
set_option maxRecDepth 20000 in
theorem am_c58 : am_at 5079 = some (Cond.code (am_y am_m58) (am_cc am_m58) (am_ml am_m58) (am_rt am_m58)) := rfl
set_option maxRecDepth 20000 in
theorem am_c59 : am_at 1167 = some (Cond.code (am_y am_m59) (am_cc am_m59) (am_ml am_m59) (am_rt am_m59)) := rfl
set_option maxRecDepth 20000 in
theorem am_c60 : am_at 4145 = some (Cond.code (am_y am_m60) (am_cc am_m60) (am_ml am_m60) (am_rt am_m60)) := rfl
set_option maxRecDepth 20000 in
theorem am_c61 : am_at 4154 = some (Cond.code (am_y am_m61) (am_cc am_m61) (am_ml am_m61) (am_rt am_m61)) := rfl
set_option maxRecDepth 20000 in
theorem am_c62 : am_at 4158 = some (Cond.code (am_y am_m62) (am_cc am_m62) (am_ml am_m62) (am_rt am_m62)) := rfl
set_option maxRecDepth 20000 in
theorem am_c63 : am_at 5028 = some (Cond.code (am_y am_m63) (am_cc am_m63) (am_ml am_m63) (am_rt am_m63)) := rfl
set_option maxRecDepth 20000 in
theorem am_c64 : am_at 5043 = some (Cond.code (am_y am_m64) (am_cc am_m64) (am_ml am_m64) (am_rt am_m64)) := rfl
set_option maxRecDepth 20000 in
theorem am_c65 : am_at 1099 = some (Cond.code (am_y am_m65) (am_cc am_m65) (am_ml am_m65) (am_rt am_m65)) := rfl
set_option maxRecDepth 20000 in
theorem am_c66 : am_at 5173 = some (Cond.code (am_y am_m66) (am_cc am_m66) (am_ml am_m66) (am_rt am_m66)) := rfl
set_option maxRecDepth 20000 in
theorem am_c67 : am_at 5179 = some (Cond.code (am_y am_m67) (am_cc am_m67) (am_ml am_m67) (am_rt am_m67)) := rfl
set_option maxRecDepth 20000 in
theorem am_c68 : am_at 5195 = some (Cond.code (am_y am_m68) (am_cc am_m68) (am_ml am_m68) (am_rt am_m68)) := rfl
set_option maxRecDepth 20000 in
theorem am_c69 : am_at 5203 = some (Cond.code (am_y am_m69) (am_cc am_m69) (am_ml am_m69) (am_rt am_m69)) := rfl
set_option maxRecDepth 20000 in
theorem am_c70 : am_at 1139 = some (Cond.code (am_y am_m70) (am_cc am_m70) (am_ml am_m70) (am_rt am_m70)) := rfl
set_option maxRecDepth 20000 in
theorem am_c71 : am_at 4197 = some (Cond.code (am_y am_m71) (am_cc am_m71) (am_ml am_m71) (am_rt am_m71)) := rfl
set_option maxRecDepth 20000 in
theorem am_c72 : am_at 4202 = some (Cond.code (am_y am_m72) (am_cc am_m72) (am_ml am_m72) (am_rt am_m72)) := rfl
set_option maxRecDepth 20000 in
theorem am_c73 : am_at 4207 = some (Cond.code (am_y am_m73) (am_cc am_m73) (am_ml am_m73) (am_rt am_m73)) := rfl
set_option maxRecDepth 20000 in
theorem am_c74 : am_at 4213 = some (Cond.code (am_y am_m74) (am_cc am_m74) (am_ml am_m74) (am_rt am_m74)) := rfl
set_option maxRecDepth 20000 in
theorem am_c75 : am_at 4221 = some (Cond.code (am_y am_m75) (am_cc am_m75) (am_ml am_m75) (am_rt am_m75)) := rfl
set_option maxRecDepth 20000 in
theorem am_c76 : am_at 4225 = some (Cond.code (am_y am_m76) (am_cc am_m76) (am_ml am_m76) (am_rt am_m76)) := rfl
set_option maxRecDepth 20000 in
theorem am_c77 : am_at 4233 = some (Cond.code (am_y am_m77) (am_cc am_m77) (am_ml am_m77) (am_rt am_m77)) := rfl
set_option maxRecDepth 20000 in
theorem am_c78 : am_at 5001 = some (Cond.code (am_y am_m78) (am_cc am_m78) (am_ml am_m78) (am_rt am_m78)) := rfl
set_option maxRecDepth 20000 in
theorem am_c79 : am_at 5005 = some (Cond.code (am_y am_m79) (am_cc am_m79) (am_ml am_m79) (am_rt am_m79)) := rfl
set_option maxRecDepth 20000 in
theorem am_c80 : am_at 5013 = some (Cond.code (am_y am_m80) (am_cc am_m80) (am_ml am_m80) (am_rt am_m80)) := rfl
set_option maxRecDepth 20000 in
theorem am_c81 : am_at 5017 = some (Cond.code (am_y am_m81) (am_cc am_m81) (am_ml am_m81) (am_rt am_m81)) := rfl
set_option maxRecDepth 20000 in
theorem am_c82 : am_at 1196 = some (Cond.code (am_y am_m82) (am_cc am_m82) (am_ml am_m82) (am_rt am_m82)) := rfl
set_option maxRecDepth 20000 in
theorem am_c83 : am_at 3203 = some (Cond.code (am_y am_m83) (am_cc am_m83) (am_ml am_m83) (am_rt am_m83)) := rfl
set_option maxRecDepth 20000 in
theorem am_c84 : am_at 3231 = some (Cond.code (am_y am_m84) (am_cc am_m84) (am_ml am_m84) (am_rt am_m84)) := rfl
set_option maxRecDepth 20000 in
theorem am_c85 : am_at 3236 = some (Cond.code (am_y am_m85) (am_cc am_m85) (am_ml am_m85) (am_rt am_m85)) := rfl
set_option maxRecDepth 20000 in
theorem am_c86 : am_at 4074 = some (Cond.code (am_y am_m86) (am_cc am_m86) (am_ml am_m86) (am_rt am_m86)) := rfl
set_option maxRecDepth 20000 in
theorem am_c87 : am_at 4082 = some (Cond.code (am_y am_m87) (am_cc am_m87) (am_ml am_m87) (am_rt am_m87)) := rfl
set_option maxRecDepth 20000 in
theorem am_c88 : am_at 4136 = some (Cond.code (am_y am_m88) (am_cc am_m88) (am_ml am_m88) (am_rt am_m88)) := rfl
set_option maxRecDepth 20000 in
theorem am_c89 : am_at 5096 = some (Cond.code (am_y am_m89) (am_cc am_m89) (am_ml am_m89) (am_rt am_m89)) := rfl
set_option maxRecDepth 20000 in
theorem am_c90 : am_at 5100 = some (Cond.code (am_y am_m90) (am_cc am_m90) (am_ml am_m90) (am_rt am_m90)) := rfl
set_option maxRecDepth 20000 in
theorem am_c91 : am_at 5103 = some (Cond.code (am_y am_m91) (am_cc am_m91) (am_ml am_m91) (am_rt am_m91)) := rfl
set_option maxRecDepth 20000 in
theorem am_c92 : am_at 5111 = some (Cond.code (am_y am_m92) (am_cc am_m92) (am_ml am_m92) (am_rt am_m92)) := rfl
set_option maxRecDepth 20000 in
theorem am_c93 : am_at 5115 = some (Cond.code (am_y am_m93) (am_cc am_m93) (am_ml am_m93) (am_rt am_m93)) := rfl
set_option maxRecDepth 20000 in
theorem am_c94 : am_at 5121 = some (Cond.code (am_y am_m94) (am_cc am_m94) (am_ml am_m94) (am_rt am_m94)) := rfl
set_option maxRecDepth 20000 in
theorem am_c95 : am_at 5125 = some (Cond.code (am_y am_m95) (am_cc am_m95) (am_ml am_m95) (am_rt am_m95)) := rfl
set_option maxRecDepth 20000 in
theorem am_c96 : am_at 5161 = some (Cond.code (am_y am_m96) (am_cc am_m96) (am_ml am_m96) (am_rt am_m96)) := rfl
set_option maxRecDepth 20000 in
theorem am_c97 : am_at 1034 = some (Cond.code (am_y am_m97) (am_cc am_m97) (am_ml am_m97) (am_rt am_m97)) := rfl
set_option maxRecDepth 20000 in
theorem am_c98 : am_at 2089 = some (Cond.code (am_y am_m98) (am_cc am_m98) (am_ml am_m98) (am_rt am_m98)) := rfl
set_option maxRecDepth 20000 in
theorem am_c99 : am_at 2103 = some (Cond.code (am_y am_m99) (am_cc am_m99) (am_ml am_m99) (am_rt am_m99)) := rfl
set_option maxRecDepth 20000 in
theorem am_c100 : am_at 2107 = some (Cond.code (am_y am_m100) (am_cc am_m100) (am_ml am_m100) (am_rt am_m100)) := rfl
set_option maxRecDepth 20000 in
theorem am_c101 : am_at 2116 = some (Cond.code (am_y am_m101) (am_cc am_m101) (am_ml am_m101) (am_rt am_m101)) := rfl
set_option maxRecDepth 20000 in
theorem am_c102 : am_at 2154 = some (Cond.code (am_y am_m102) (am_cc am_m102) (am_ml am_m102) (am_rt am_m102)) := rfl
set_option maxRecDepth 20000 in
theorem am_c103 : am_at 1079 = some (Cond.code (am_y am_m103) (am_cc am_m103) (am_ml am_m103) (am_rt am_m103)) := rfl
set_option maxRecDepth 20000 in
theorem am_c104 : am_at 3094 = some (Cond.code (am_y am_m104) (am_cc am_m104) (am_ml am_m104) (am_rt am_m104)) := rfl
set_option maxRecDepth 20000 in
theorem am_c105 : am_at 3098 = some (Cond.code (am_y am_m105) (am_cc am_m105) (am_ml am_m105) (am_rt am_m105)) := rfl
set_option maxRecDepth 20000 in
theorem am_c106 : am_at 3102 = some (Cond.code (am_y am_m106) (am_cc am_m106) (am_ml am_m106) (am_rt am_m106)) := rfl
set_option maxRecDepth 20000 in
theorem am_c107 : am_at 3108 = some (Cond.code (am_y am_m107) (am_cc am_m107) (am_ml am_m107) (am_rt am_m107)) := rfl
set_option maxRecDepth 20000 in
theorem am_c108 : am_at 3131 = some (Cond.code (am_y am_m108) (am_cc am_m108) (am_ml am_m108) (am_rt am_m108)) := rfl
set_option maxRecDepth 20000 in
theorem am_c109 : am_at 3135 = some (Cond.code (am_y am_m109) (am_cc am_m109) (am_ml am_m109) (am_rt am_m109)) := rfl
set_option maxRecDepth 20000 in
theorem am_c110 : am_at 3139 = some (Cond.code (am_y am_m110) (am_cc am_m110) (am_ml am_m110) (am_rt am_m110)) := rfl
set_option maxRecDepth 20000 in
theorem am_c111 : am_at 3149 = some (Cond.code (am_y am_m111) (am_cc am_m111) (am_ml am_m111) (am_rt am_m111)) := rfl
set_option maxRecDepth 20000 in
theorem am_c112 : am_at 3155 = some (Cond.code (am_y am_m112) (am_cc am_m112) (am_ml am_m112) (am_rt am_m112)) := rfl
set_option maxRecDepth 20000 in
theorem am_c113 : am_at 3160 = some (Cond.code (am_y am_m113) (am_cc am_m113) (am_ml am_m113) (am_rt am_m113)) := rfl
set_option maxRecDepth 20000 in
theorem am_c114 : am_at 3169 = some (Cond.code (am_y am_m114) (am_cc am_m114) (am_ml am_m114) (am_rt am_m114)) := rfl
set_option maxRecDepth 20000 in
theorem am_c115 : am_at 3173 = some (Cond.code (am_y am_m115) (am_cc am_m115) (am_ml am_m115) (am_rt am_m115)) := rfl
set_option maxRecDepth 20000 in
theorem am_c116 : am_at 1048 = some (Cond.code (am_y am_m116) (am_cc am_m116) (am_ml am_m116) (am_rt am_m116)) := rfl
set_option maxRecDepth 20000 in
theorem am_c117 : am_at 2145 = some (Cond.code (am_y am_m117) (am_cc am_m117) (am_ml am_m117) (am_rt am_m117)) := rfl
set_option maxRecDepth 20000 in
theorem am_c118 : am_at 2149 = some (Cond.code (am_y am_m118) (am_cc am_m118) (am_ml am_m118) (am_rt am_m118)) := rfl
set_option maxRecDepth 20000 in
theorem am_c119 : am_at 2157 = some (Cond.code (am_y am_m119) (am_cc am_m119) (am_ml am_m119) (am_rt am_m119)) := rfl
set_option maxRecDepth 20000 in
theorem am_c120 : am_at 2160 = some (Cond.code (am_y am_m120) (am_cc am_m120) (am_ml am_m120) (am_rt am_m120)) := rfl
set_option maxRecDepth 20000 in
theorem am_c121 : am_at 2164 = some (Cond.code (am_y am_m121) (am_cc am_m121) (am_ml am_m121) (am_rt am_m121)) := rfl
set_option maxRecDepth 20000 in
theorem am_c122 : am_at 2169 = some (Cond.code (am_y am_m122) (am_cc am_m122) (am_ml am_m122) (am_rt am_m122)) := rfl
set_option maxRecDepth 20000 in
theorem am_c123 : am_at 2236 = some (Cond.code (am_y am_m123) (am_cc am_m123) (am_ml am_m123) (am_rt am_m123)) := rfl
set_option maxRecDepth 20000 in
theorem am_c124 : am_at 3000 = some (Cond.code (am_y am_m124) (am_cc am_m124) (am_ml am_m124) (am_rt am_m124)) := rfl
set_option maxRecDepth 20000 in
theorem am_c125 : am_at 3005 = some (Cond.code (am_y am_m125) (am_cc am_m125) (am_ml am_m125) (am_rt am_m125)) := rfl
set_option maxRecDepth 20000 in
theorem am_c126 : am_at 3009 = some (Cond.code (am_y am_m126) (am_cc am_m126) (am_ml am_m126) (am_rt am_m126)) := rfl
set_option maxRecDepth 20000 in
theorem am_c127 : am_at 3023 = some (Cond.code (am_y am_m127) (am_cc am_m127) (am_ml am_m127) (am_rt am_m127)) := rfl
set_option maxRecDepth 20000 in
theorem am_c128 : am_at 3038 = some (Cond.code (am_y am_m128) (am_cc am_m128) (am_ml am_m128) (am_rt am_m128)) := rfl
set_option maxRecDepth 20000 in
theorem am_c129 : am_at 3043 = some (Cond.code (am_y am_m129) (am_cc am_m129) (am_ml am_m129) (am_rt am_m129)) := rfl
set_option maxRecDepth 20000 in
theorem am_c130 : am_at 3049 = some (Cond.code (am_y am_m130) (am_cc am_m130) (am_ml am_m130) (am_rt am_m130)) := rfl
set_option maxRecDepth 20000 in
theorem am_c131 : am_at 3067 = some (Cond.code (am_y am_m131) (am_cc am_m131) (am_ml am_m131) (am_rt am_m131)) := rfl
set_option maxRecDepth 20000 in
theorem am_c132 : am_at 3119 = some (Cond.code (am_y am_m132) (am_cc am_m132) (am_ml am_m132) (am_rt am_m132)) := rfl
set_option maxRecDepth 20000 in
theorem am_c133 : am_at 3124 = some (Cond.code (am_y am_m133) (am_cc am_m133) (am_ml am_m133) (am_rt am_m133)) := rfl
set_option maxRecDepth 20000 in
theorem am_c134 : am_at 3143 = some (Cond.code (am_y am_m134) (am_cc am_m134) (am_ml am_m134) (am_rt am_m134)) := rfl
set_option maxRecDepth 20000 in
theorem am_c135 : am_at 3218 = some (Cond.code (am_y am_m135) (am_cc am_m135) (am_ml am_m135) (am_rt am_m135)) := rfl
set_option maxRecDepth 20000 in
theorem am_c136 : am_at 1026 = some (Cond.code (am_y am_m136) (am_cc am_m136) (am_ml am_m136) (am_rt am_m136)) := rfl
set_option maxRecDepth 20000 in
theorem am_c137 : am_at 2085 = some (Cond.code (am_y am_m137) (am_cc am_m137) (am_ml am_m137) (am_rt am_m137)) := rfl
set_option maxRecDepth 20000 in
theorem am_c138 : am_at 2093 = some (Cond.code (am_y am_m138) (am_cc am_m138) (am_ml am_m138) (am_rt am_m138)) := rfl
set_option maxRecDepth 20000 in
theorem am_c139 : am_at 2096 = some (Cond.code (am_y am_m139) (am_cc am_m139) (am_ml am_m139) (am_rt am_m139)) := rfl
set_option maxRecDepth 20000 in
theorem am_c140 : am_at 2099 = some (Cond.code (am_y am_m140) (am_cc am_m140) (am_ml am_m140) (am_rt am_m140)) := rfl
set_option maxRecDepth 20000 in
theorem am_c141 : am_at 2112 = some (Cond.code (am_y am_m141) (am_cc am_m141) (am_ml am_m141) (am_rt am_m141)) := rfl
set_option maxRecDepth 20000 in
theorem am_c142 : am_at 2126 = some (Cond.code (am_y am_m142) (am_cc am_m142) (am_ml am_m142) (am_rt am_m142)) := rfl
set_option maxRecDepth 20000 in
theorem am_c143 : am_at 3213 = some (Cond.code (am_y am_m143) (am_cc am_m143) (am_ml am_m143) (am_rt am_m143)) := rfl
set_option maxRecDepth 20000 in
theorem am_c144 : am_at 3222 = some (Cond.code (am_y am_m144) (am_cc am_m144) (am_ml am_m144) (am_rt am_m144)) := rfl
set_option maxRecDepth 20000 in
theorem am_c145 : am_at 4086 = some (Cond.code (am_y am_m145) (am_cc am_m145) (am_ml am_m145) (am_rt am_m145)) := rfl
set_option maxRecDepth 20000 in
theorem am_c146 : am_at 4095 = some (Cond.code (am_y am_m146) (am_cc am_m146) (am_ml am_m146) (am_rt am_m146)) := rfl
set_option maxRecDepth 20000 in
theorem am_c147 : am_at 4106 = some (Cond.code (am_y am_m147) (am_cc am_m147) (am_ml am_m147) (am_rt am_m147)) := rfl
set_option maxRecDepth 20000 in
theorem am_c148 : am_at 4123 = some (Cond.code (am_y am_m148) (am_cc am_m148) (am_ml am_m148) (am_rt am_m148)) := rfl
set_option maxRecDepth 20000 in
theorem am_c149 : am_at 4127 = some (Cond.code (am_y am_m149) (am_cc am_m149) (am_ml am_m149) (am_rt am_m149)) := rfl
set_option maxRecDepth 20000 in
theorem am_c150 : am_at 4132 = some (Cond.code (am_y am_m150) (am_cc am_m150) (am_ml am_m150) (am_rt am_m150)) := rfl
set_option maxRecDepth 20000 in
theorem am_c151 : am_at 4141 = some (Cond.code (am_y am_m151) (am_cc am_m151) (am_ml am_m151) (am_rt am_m151)) := rfl
set_option maxRecDepth 20000 in
theorem am_c152 : am_at 4181 = some (Cond.code (am_y am_m152) (am_cc am_m152) (am_ml am_m152) (am_rt am_m152)) := rfl
set_option maxRecDepth 20000 in
theorem am_c153 : am_at 4185 = some (Cond.code (am_y am_m153) (am_cc am_m153) (am_ml am_m153) (am_rt am_m153)) := rfl
set_option maxRecDepth 20000 in
theorem am_c154 : am_at 4229 = some (Cond.code (am_y am_m154) (am_cc am_m154) (am_ml am_m154) (am_rt am_m154)) := rfl
set_option maxRecDepth 20000 in
theorem am_c155 : am_at 4237 = some (Cond.code (am_y am_m155) (am_cc am_m155) (am_ml am_m155) (am_rt am_m155)) := rfl
set_option maxRecDepth 20000 in
theorem am_c156 : am_at 5009 = some (Cond.code (am_y am_m156) (am_cc am_m156) (am_ml am_m156) (am_rt am_m156)) := rfl
set_option maxRecDepth 20000 in
theorem am_c157 : am_at 5020 = some (Cond.code (am_y am_m157) (am_cc am_m157) (am_ml am_m157) (am_rt am_m157)) := rfl
set_option maxRecDepth 20000 in
theorem am_c158 : am_at 5024 = some (Cond.code (am_y am_m158) (am_cc am_m158) (am_ml am_m158) (am_rt am_m158)) := rfl
set_option maxRecDepth 20000 in
theorem am_c159 : am_at 5035 = some (Cond.code (am_y am_m159) (am_cc am_m159) (am_ml am_m159) (am_rt am_m159)) := rfl
set_option maxRecDepth 20000 in
theorem am_c160 : am_at 5039 = some (Cond.code (am_y am_m160) (am_cc am_m160) (am_ml am_m160) (am_rt am_m160)) := rfl
set_option maxRecDepth 20000 in
theorem am_c161 : am_at 5049 = some (Cond.code (am_y am_m161) (am_cc am_m161) (am_ml am_m161) (am_rt am_m161)) := rfl
set_option maxRecDepth 20000 in
theorem am_c162 : am_at 5053 = some (Cond.code (am_y am_m162) (am_cc am_m162) (am_ml am_m162) (am_rt am_m162)) := rfl
set_option maxRecDepth 20000 in
theorem am_c163 : am_at 5057 = some (Cond.code (am_y am_m163) (am_cc am_m163) (am_ml am_m163) (am_rt am_m163)) := rfl
set_option maxRecDepth 20000 in
theorem am_c164 : am_at 5071 = some (Cond.code (am_y am_m164) (am_cc am_m164) (am_ml am_m164) (am_rt am_m164)) := rfl
set_option maxRecDepth 20000 in
theorem am_c165 : am_at 5087 = some (Cond.code (am_y am_m165) (am_cc am_m165) (am_ml am_m165) (am_rt am_m165)) := rfl
set_option maxRecDepth 20000 in
theorem am_c166 : am_at 5092 = some (Cond.code (am_y am_m166) (am_cc am_m166) (am_ml am_m166) (am_rt am_m166)) := rfl
set_option maxRecDepth 20000 in
theorem am_c167 : am_at 5107 = some (Cond.code (am_y am_m167) (am_cc am_m167) (am_ml am_m167) (am_rt am_m167)) := rfl
set_option maxRecDepth 20000 in
theorem am_c168 : am_at 5132 = some (Cond.code (am_y am_m168) (am_cc am_m168) (am_ml am_m168) (am_rt am_m168)) := rfl
set_option maxRecDepth 20000 in
theorem am_c169 : am_at 5136 = some (Cond.code (am_y am_m169) (am_cc am_m169) (am_ml am_m169) (am_rt am_m169)) := rfl
set_option maxRecDepth 20000 in
theorem am_c170 : am_at 5144 = some (Cond.code (am_y am_m170) (am_cc am_m170) (am_ml am_m170) (am_rt am_m170)) := rfl
set_option maxRecDepth 20000 in
theorem am_c171 : am_at 5148 = some (Cond.code (am_y am_m171) (am_cc am_m171) (am_ml am_m171) (am_rt am_m171)) := rfl
set_option maxRecDepth 20000 in
theorem am_c172 : am_at 5157 = some (Cond.code (am_y am_m172) (am_cc am_m172) (am_ml am_m172) (am_rt am_m172)) := rfl
set_option maxRecDepth 20000 in
theorem am_c173 : am_at 5165 = some (Cond.code (am_y am_m173) (am_cc am_m173) (am_ml am_m173) (am_rt am_m173)) := rfl
set_option maxRecDepth 20000 in
theorem am_c174 : am_at 5169 = some (Cond.code (am_y am_m174) (am_cc am_m174) (am_ml am_m174) (am_rt am_m174)) := rfl
set_option maxRecDepth 20000 in
theorem am_c175 : am_at 5210 = some (Cond.code (am_y am_m175) (am_cc am_m175) (am_ml am_m175) (am_rt am_m175)) := rfl
set_option maxRecDepth 20000 in
theorem am_c176 : am_at 5213 = some (Cond.code (am_y am_m176) (am_cc am_m176) (am_ml am_m176) (am_rt am_m176)) := rfl
set_option maxRecDepth 20000 in
theorem am_c177 : am_at 5217 = some (Cond.code (am_y am_m177) (am_cc am_m177) (am_ml am_m177) (am_rt am_m177)) := rfl
set_option maxRecDepth 20000 in
theorem am_c178 : am_at 5221 = some (Cond.code (am_y am_m178) (am_cc am_m178) (am_ml am_m178) (am_rt am_m178)) := rfl
set_option maxRecDepth 20000 in
theorem am_c179 : am_at 5225 = some (Cond.code (am_y am_m179) (am_cc am_m179) (am_ml am_m179) (am_rt am_m179)) := rfl
set_option maxRecDepth 20000 in
theorem am_c180 : am_at 5230 = some (Cond.code (am_y am_m180) (am_cc am_m180) (am_ml am_m180) (am_rt am_m180)) := rfl
set_option maxRecDepth 20000 in
theorem am_c181 : am_at 5235 = some (Cond.code (am_y am_m181) (am_cc am_m181) (am_ml am_m181) (am_rt am_m181)) := rfl
set_option maxRecDepth 20000 in
theorem am_c182 : am_at 7048 = some (Cond.code (am_y am_m182) (am_cc am_m182) (am_ml am_m182) (am_rt am_m182)) := rfl
set_option maxRecDepth 20000 in
theorem am_c183 : am_at 7052 = some (Cond.code (am_y am_m183) (am_cc am_m183) (am_ml am_m183) (am_rt am_m183)) := rfl
set_option maxRecDepth 20000 in
theorem am_c184 : am_at 7056 = some (Cond.code (am_y am_m184) (am_cc am_m184) (am_ml am_m184) (am_rt am_m184)) := rfl
set_option maxRecDepth 20000 in
theorem am_c185 : am_at 7060 = some (Cond.code (am_y am_m185) (am_cc am_m185) (am_ml am_m185) (am_rt am_m185)) := rfl
set_option maxRecDepth 20000 in
theorem am_c186 : am_at 7064 = some (Cond.code (am_y am_m186) (am_cc am_m186) (am_ml am_m186) (am_rt am_m186)) := rfl
set_option maxRecDepth 20000 in
theorem am_c187 : am_at 7068 = some (Cond.code (am_y am_m187) (am_cc am_m187) (am_ml am_m187) (am_rt am_m187)) := rfl
set_option maxRecDepth 20000 in
theorem am_c188 : am_at 7072 = some (Cond.code (am_y am_m188) (am_cc am_m188) (am_ml am_m188) (am_rt am_m188)) := rfl
set_option maxRecDepth 20000 in
theorem am_c189 : am_at 7076 = some (Cond.code (am_y am_m189) (am_cc am_m189) (am_ml am_m189) (am_rt am_m189)) := rfl
set_option maxRecDepth 20000 in
theorem am_c190 : am_at 7079 = some (Cond.code (am_y am_m190) (am_cc am_m190) (am_ml am_m190) (am_rt am_m190)) := rfl
set_option maxRecDepth 20000 in
theorem am_c191 : am_at 7083 = some (Cond.code (am_y am_m191) (am_cc am_m191) (am_ml am_m191) (am_rt am_m191)) := rfl
set_option maxRecDepth 20000 in
theorem am_c192 : am_at 7087 = some (Cond.code (am_y am_m192) (am_cc am_m192) (am_ml am_m192) (am_rt am_m192)) := rfl
set_option maxRecDepth 20000 in
theorem am_c193 : am_at 7091 = some (Cond.code (am_y am_m193) (am_cc am_m193) (am_ml am_m193) (am_rt am_m193)) := rfl
set_option maxRecDepth 20000 in
theorem am_c194 : am_at 7095 = some (Cond.code (am_y am_m194) (am_cc am_m194) (am_ml am_m194) (am_rt am_m194)) := rfl
set_option maxRecDepth 20000 in
theorem am_c195 : am_at 7099 = some (Cond.code (am_y am_m195) (am_cc am_m195) (am_ml am_m195) (am_rt am_m195)) := rfl
set_option maxRecDepth 20000 in
theorem am_c196 : am_at 7105 = some (Cond.code (am_y am_m196) (am_cc am_m196) (am_ml am_m196) (am_rt am_m196)) := rfl
set_option maxRecDepth 20000 in
theorem am_c197 : am_at 7109 = some (Cond.code (am_y am_m197) (am_cc am_m197) (am_ml am_m197) (am_rt am_m197)) := rfl
set_option maxRecDepth 20000 in
theorem am_c198 : am_at 7113 = some (Cond.code (am_y am_m198) (am_cc am_m198) (am_ml am_m198) (am_rt am_m198)) := rfl
set_option maxRecDepth 20000 in
theorem am_c199 : am_at 7116 = some (Cond.code (am_y am_m199) (am_cc am_m199) (am_ml am_m199) (am_rt am_m199)) := rfl
set_option maxRecDepth 20000 in
theorem am_c200 : am_at 7119 = some (Cond.code (am_y am_m200) (am_cc am_m200) (am_ml am_m200) (am_rt am_m200)) := rfl
set_option maxRecDepth 20000 in
theorem am_c201 : am_at 7123 = some (Cond.code (am_y am_m201) (am_cc am_m201) (am_ml am_m201) (am_rt am_m201)) := rfl
set_option maxRecDepth 20000 in
theorem am_c202 : am_at 7127 = some (Cond.code (am_y am_m202) (am_cc am_m202) (am_ml am_m202) (am_rt am_m202)) := rfl
set_option maxRecDepth 20000 in
theorem am_c203 : am_at 7131 = some (Cond.code (am_y am_m203) (am_cc am_m203) (am_ml am_m203) (am_rt am_m203)) := rfl
set_option maxRecDepth 20000 in
theorem am_c204 : am_at 7135 = some (Cond.code (am_y am_m204) (am_cc am_m204) (am_ml am_m204) (am_rt am_m204)) := rfl
set_option maxRecDepth 20000 in
theorem am_c205 : am_at 7139 = some (Cond.code (am_y am_m205) (am_cc am_m205) (am_ml am_m205) (am_rt am_m205)) := rfl
set_option maxRecDepth 20000 in
theorem am_c206 : am_at 7143 = some (Cond.code (am_y am_m206) (am_cc am_m206) (am_ml am_m206) (am_rt am_m206)) := rfl
set_option maxRecDepth 20000 in
theorem am_c207 : am_at 7147 = some (Cond.code (am_y am_m207) (am_cc am_m207) (am_ml am_m207) (am_rt am_m207)) := rfl
set_option maxRecDepth 20000 in
theorem am_c208 : am_at 7151 = some (Cond.code (am_y am_m208) (am_cc am_m208) (am_ml am_m208) (am_rt am_m208)) := rfl
set_option maxRecDepth 20000 in
theorem am_c209 : am_at 7155 = some (Cond.code (am_y am_m209) (am_cc am_m209) (am_ml am_m209) (am_rt am_m209)) := rfl
set_option maxRecDepth 20000 in
theorem am_c210 : am_at 7159 = some (Cond.code (am_y am_m210) (am_cc am_m210) (am_ml am_m210) (am_rt am_m210)) := rfl
set_option maxRecDepth 20000 in
theorem am_c211 : am_at 7163 = some (Cond.code (am_y am_m211) (am_cc am_m211) (am_ml am_m211) (am_rt am_m211)) := rfl
set_option maxRecDepth 20000 in
theorem am_c212 : am_at 7167 = some (Cond.code (am_y am_m212) (am_cc am_m212) (am_ml am_m212) (am_rt am_m212)) := rfl
set_option maxRecDepth 20000 in
theorem am_c213 : am_at 7171 = some (Cond.code (am_y am_m213) (am_cc am_m213) (am_ml am_m213) (am_rt am_m213)) := rfl
set_option maxRecDepth 20000 in
theorem am_c214 : am_at 7175 = some (Cond.code (am_y am_m214) (am_cc am_m214) (am_ml am_m214) (am_rt am_m214)) := rfl
set_option maxRecDepth 20000 in
theorem am_c215 : am_at 7179 = some (Cond.code (am_y am_m215) (am_cc am_m215) (am_ml am_m215) (am_rt am_m215)) := rfl
set_option maxRecDepth 20000 in
theorem am_c216 : am_at 7183 = some (Cond.code (am_y am_m216) (am_cc am_m216) (am_ml am_m216) (am_rt am_m216)) := rfl
set_option maxRecDepth 20000 in
theorem am_c217 : am_at 7187 = some (Cond.code (am_y am_m217) (am_cc am_m217) (am_ml am_m217) (am_rt am_m217)) := rfl
set_option maxRecDepth 20000 in
theorem am_c218 : am_at 7191 = some (Cond.code (am_y am_m218) (am_cc am_m218) (am_ml am_m218) (am_rt am_m218)) := rfl
set_option maxRecDepth 20000 in
theorem am_c219 : am_at 7195 = some (Cond.code (am_y am_m219) (am_cc am_m219) (am_ml am_m219) (am_rt am_m219)) := rfl
set_option maxRecDepth 20000 in
theorem am_c220 : am_at 7198 = some (Cond.code (am_y am_m220) (am_cc am_m220) (am_ml am_m220) (am_rt am_m220)) := rfl
set_option maxRecDepth 20000 in
theorem am_c221 : am_at 7202 = some (Cond.code (am_y am_m221) (am_cc am_m221) (am_ml am_m221) (am_rt am_m221)) := rfl
set_option maxRecDepth 20000 in
theorem am_c222 : am_at 7206 = some (Cond.code (am_y am_m222) (am_cc am_m222) (am_ml am_m222) (am_rt am_m222)) := rfl
set_option maxRecDepth 20000 in
theorem am_c223 : am_at 7210 = some (Cond.code (am_y am_m223) (am_cc am_m223) (am_ml am_m223) (am_rt am_m223)) := rfl
set_option maxRecDepth 20000 in
theorem am_c224 : am_at 7214 = some (Cond.code (am_y am_m224) (am_cc am_m224) (am_ml am_m224) (am_rt am_m224)) := rfl
set_option maxRecDepth 20000 in
theorem am_c225 : am_at 7218 = some (Cond.code (am_y am_m225) (am_cc am_m225) (am_ml am_m225) (am_rt am_m225)) := rfl
set_option maxRecDepth 20000 in
theorem am_c226 : am_at 7222 = some (Cond.code (am_y am_m226) (am_cc am_m226) (am_ml am_m226) (am_rt am_m226)) := rfl
set_option maxRecDepth 20000 in
theorem am_c227 : am_at 7226 = some (Cond.code (am_y am_m227) (am_cc am_m227) (am_ml am_m227) (am_rt am_m227)) := rfl
set_option maxRecDepth 20000 in
theorem am_c228 : am_at 7230 = some (Cond.code (am_y am_m228) (am_cc am_m228) (am_ml am_m228) (am_rt am_m228)) := rfl
set_option maxRecDepth 20000 in
theorem am_c229 : am_at 7234 = some (Cond.code (am_y am_m229) (am_cc am_m229) (am_ml am_m229) (am_rt am_m229)) := rfl
set_option maxRecDepth 20000 in
theorem am_c230 : am_at 7238 = some (Cond.code (am_y am_m230) (am_cc am_m230) (am_ml am_m230) (am_rt am_m230)) := rfl
set_option maxRecDepth 20000 in
theorem am_c231 : am_at 8002 = some (Cond.code (am_y am_m231) (am_cc am_m231) (am_ml am_m231) (am_rt am_m231)) := rfl
set_option maxRecDepth 20000 in
theorem am_c232 : am_at 8006 = some (Cond.code (am_y am_m232) (am_cc am_m232) (am_ml am_m232) (am_rt am_m232)) := rfl
set_option maxRecDepth 20000 in
theorem am_c233 : am_at 8010 = some (Cond.code (am_y am_m233) (am_cc am_m233) (am_ml am_m233) (am_rt am_m233)) := rfl
set_option maxRecDepth 20000 in
theorem am_c234 : am_at 8014 = some (Cond.code (am_y am_m234) (am_cc am_m234) (am_ml am_m234) (am_rt am_m234)) := rfl
set_option maxRecDepth 20000 in
theorem am_c235 : am_at 8018 = some (Cond.code (am_y am_m235) (am_cc am_m235) (am_ml am_m235) (am_rt am_m235)) := rfl
set_option maxRecDepth 20000 in
theorem am_c236 : am_at 8022 = some (Cond.code (am_y am_m236) (am_cc am_m236) (am_ml am_m236) (am_rt am_m236)) := rfl
set_option maxRecDepth 20000 in
theorem am_c237 : am_at 8026 = some (Cond.code (am_y am_m237) (am_cc am_m237) (am_ml am_m237) (am_rt am_m237)) := rfl
set_option maxRecDepth 20000 in
theorem am_c238 : am_at 8031 = some (Cond.code (am_y am_m238) (am_cc am_m238) (am_ml am_m238) (am_rt am_m238)) := rfl
set_option maxRecDepth 20000 in
theorem am_c239 : am_at 8035 = some (Cond.code (am_y am_m239) (am_cc am_m239) (am_ml am_m239) (am_rt am_m239)) := rfl
set_option maxRecDepth 20000 in
theorem am_c240 : am_at 8038 = some (Cond.code (am_y am_m240) (am_cc am_m240) (am_ml am_m240) (am_rt am_m240)) := rfl
set_option maxRecDepth 20000 in
theorem am_c241 : am_at 8044 = some (Cond.code (am_y am_m241) (am_cc am_m241) (am_ml am_m241) (am_rt am_m241)) := rfl
set_option maxRecDepth 20000 in
theorem am_c242 : am_at 8047 = some (Cond.code (am_y am_m242) (am_cc am_m242) (am_ml am_m242) (am_rt am_m242)) := rfl
set_option maxRecDepth 20000 in
theorem am_c243 : am_at 8051 = some (Cond.code (am_y am_m243) (am_cc am_m243) (am_ml am_m243) (am_rt am_m243)) := rfl
set_option maxRecDepth 20000 in
theorem am_c244 : am_at 8055 = some (Cond.code (am_y am_m244) (am_cc am_m244) (am_ml am_m244) (am_rt am_m244)) := rfl
set_option maxRecDepth 20000 in
theorem am_c245 : am_at 8059 = some (Cond.code (am_y am_m245) (am_cc am_m245) (am_ml am_m245) (am_rt am_m245)) := rfl
set_option maxRecDepth 20000 in
theorem am_c246 : am_at 8062 = some (Cond.code (am_y am_m246) (am_cc am_m246) (am_ml am_m246) (am_rt am_m246)) := rfl
set_option maxRecDepth 20000 in
theorem am_c247 : am_at 8066 = some (Cond.code (am_y am_m247) (am_cc am_m247) (am_ml am_m247) (am_rt am_m247)) := rfl
set_option maxRecDepth 20000 in
theorem am_c248 : am_at 8072 = some (Cond.code (am_y am_m248) (am_cc am_m248) (am_ml am_m248) (am_rt am_m248)) := rfl
set_option maxRecDepth 20000 in
theorem am_c249 : am_at 8076 = some (Cond.code (am_y am_m249) (am_cc am_m249) (am_ml am_m249) (am_rt am_m249)) := rfl
set_option maxRecDepth 20000 in
theorem am_c250 : am_at 8080 = some (Cond.code (am_y am_m250) (am_cc am_m250) (am_ml am_m250) (am_rt am_m250)) := rfl
set_option maxRecDepth 20000 in
theorem am_c251 : am_at 8084 = some (Cond.code (am_y am_m251) (am_cc am_m251) (am_ml am_m251) (am_rt am_m251)) := rfl
set_option maxRecDepth 20000 in
theorem am_c252 : am_at 8089 = some (Cond.code (am_y am_m252) (am_cc am_m252) (am_ml am_m252) (am_rt am_m252)) := rfl
set_option maxRecDepth 20000 in
theorem am_c253 : am_at 8093 = some (Cond.code (am_y am_m253) (am_cc am_m253) (am_ml am_m253) (am_rt am_m253)) := rfl
set_option maxRecDepth 20000 in
theorem am_c254 : am_at 8097 = some (Cond.code (am_y am_m254) (am_cc am_m254) (am_ml am_m254) (am_rt am_m254)) := rfl
set_option maxRecDepth 20000 in
theorem am_c255 : am_at 8101 = some (Cond.code (am_y am_m255) (am_cc am_m255) (am_ml am_m255) (am_rt am_m255)) := rfl
set_option maxRecDepth 20000 in
theorem am_c256 : am_at 8105 = some (Cond.code (am_y am_m256) (am_cc am_m256) (am_ml am_m256) (am_rt am_m256)) := rfl
set_option maxRecDepth 20000 in
theorem am_c257 : am_at 8109 = some (Cond.code (am_y am_m257) (am_cc am_m257) (am_ml am_m257) (am_rt am_m257)) := rfl
set_option maxRecDepth 20000 in
theorem am_c258 : am_at 8114 = some (Cond.code (am_y am_m258) (am_cc am_m258) (am_ml am_m258) (am_rt am_m258)) := rfl
set_option maxRecDepth 20000 in
theorem am_c259 : am_at 8118 = some (Cond.code (am_y am_m259) (am_cc am_m259) (am_ml am_m259) (am_rt am_m259)) := rfl
set_option maxRecDepth 20000 in
theorem am_c260 : am_at 8123 = some (Cond.code (am_y am_m260) (am_cc am_m260) (am_ml am_m260) (am_rt am_m260)) := rfl
set_option maxRecDepth 20000 in
theorem am_c261 : am_at 8127 = some (Cond.code (am_y am_m261) (am_cc am_m261) (am_ml am_m261) (am_rt am_m261)) := rfl
set_option maxRecDepth 20000 in
theorem am_c262 : am_at 8131 = some (Cond.code (am_y am_m262) (am_cc am_m262) (am_ml am_m262) (am_rt am_m262)) := rfl
set_option maxRecDepth 20000 in
theorem am_c263 : am_at 8135 = some (Cond.code (am_y am_m263) (am_cc am_m263) (am_ml am_m263) (am_rt am_m263)) := rfl
set_option maxRecDepth 20000 in
theorem am_c264 : am_at 8139 = some (Cond.code (am_y am_m264) (am_cc am_m264) (am_ml am_m264) (am_rt am_m264)) := rfl
set_option maxRecDepth 20000 in
theorem am_c265 : am_at 8143 = some (Cond.code (am_y am_m265) (am_cc am_m265) (am_ml am_m265) (am_rt am_m265)) := rfl
set_option maxRecDepth 20000 in
theorem am_c266 : am_at 8147 = some (Cond.code (am_y am_m266) (am_cc am_m266) (am_ml am_m266) (am_rt am_m266)) := rfl
set_option maxRecDepth 20000 in
theorem am_c267 : am_at 8151 = some (Cond.code (am_y am_m267) (am_cc am_m267) (am_ml am_m267) (am_rt am_m267)) := rfl
set_option maxRecDepth 20000 in
theorem am_c268 : am_at 8155 = some (Cond.code (am_y am_m268) (am_cc am_m268) (am_ml am_m268) (am_rt am_m268)) := rfl
set_option maxRecDepth 20000 in
theorem am_c269 : am_at 8159 = some (Cond.code (am_y am_m269) (am_cc am_m269) (am_ml am_m269) (am_rt am_m269)) := rfl
set_option maxRecDepth 20000 in
theorem am_c270 : am_at 8163 = some (Cond.code (am_y am_m270) (am_cc am_m270) (am_ml am_m270) (am_rt am_m270)) := rfl
set_option maxRecDepth 20000 in
theorem am_c271 : am_at 8167 = some (Cond.code (am_y am_m271) (am_cc am_m271) (am_ml am_m271) (am_rt am_m271)) := rfl
set_option maxRecDepth 20000 in
theorem am_c272 : am_at 8171 = some (Cond.code (am_y am_m272) (am_cc am_m272) (am_ml am_m272) (am_rt am_m272)) := rfl
set_option maxRecDepth 20000 in
theorem am_c273 : am_at 8175 = some (Cond.code (am_y am_m273) (am_cc am_m273) (am_ml am_m273) (am_rt am_m273)) := rfl
set_option maxRecDepth 20000 in
theorem am_c274 : am_at 8179 = some (Cond.code (am_y am_m274) (am_cc am_m274) (am_ml am_m274) (am_rt am_m274)) := rfl
set_option maxRecDepth 20000 in
theorem am_c275 : am_at 8183 = some (Cond.code (am_y am_m275) (am_cc am_m275) (am_ml am_m275) (am_rt am_m275)) := rfl
set_option maxRecDepth 20000 in
theorem am_c276 : am_at 8187 = some (Cond.code (am_y am_m276) (am_cc am_m276) (am_ml am_m276) (am_rt am_m276)) := rfl
set_option maxRecDepth 20000 in
theorem am_c277 : am_at 8191 = some (Cond.code (am_y am_m277) (am_cc am_m277) (am_ml am_m277) (am_rt am_m277)) := rfl
set_option maxRecDepth 20000 in
theorem am_c278 : am_at 8195 = some (Cond.code (am_y am_m278) (am_cc am_m278) (am_ml am_m278) (am_rt am_m278)) := rfl
set_option maxRecDepth 20000 in
theorem am_c279 : am_at 8199 = some (Cond.code (am_y am_m279) (am_cc am_m279) (am_ml am_m279) (am_rt am_m279)) := rfl
set_option maxRecDepth 20000 in
theorem am_c280 : am_at 8202 = some (Cond.code (am_y am_m280) (am_cc am_m280) (am_ml am_m280) (am_rt am_m280)) := rfl
set_option maxRecDepth 20000 in
theorem am_c281 : am_at 8206 = some (Cond.code (am_y am_m281) (am_cc am_m281) (am_ml am_m281) (am_rt am_m281)) := rfl
set_option maxRecDepth 20000 in
theorem am_c282 : am_at 8210 = some (Cond.code (am_y am_m282) (am_cc am_m282) (am_ml am_m282) (am_rt am_m282)) := rfl
set_option maxRecDepth 20000 in
theorem am_c283 : am_at 8214 = some (Cond.code (am_y am_m283) (am_cc am_m283) (am_ml am_m283) (am_rt am_m283)) := rfl
set_option maxRecDepth 20000 in
theorem am_c284 : am_at 8218 = some (Cond.code (am_y am_m284) (am_cc am_m284) (am_ml am_m284) (am_rt am_m284)) := rfl
set_option maxRecDepth 20000 in
theorem am_c285 : am_at 8222 = some (Cond.code (am_y am_m285) (am_cc am_m285) (am_ml am_m285) (am_rt am_m285)) := rfl
set_option maxRecDepth 20000 in
theorem am_c286 : am_at 8226 = some (Cond.code (am_y am_m286) (am_cc am_m286) (am_ml am_m286) (am_rt am_m286)) := rfl
set_option maxRecDepth 20000 in
theorem am_c287 : am_at 8230 = some (Cond.code (am_y am_m287) (am_cc am_m287) (am_ml am_m287) (am_rt am_m287)) := rfl
set_option maxRecDepth 20000 in
theorem am_c288 : am_at 8234 = some (Cond.code (am_y am_m288) (am_cc am_m288) (am_ml am_m288) (am_rt am_m288)) := rfl
set_option maxRecDepth 20000 in
theorem am_c289 : am_at 8238 = some (Cond.code (am_y am_m289) (am_cc am_m289) (am_ml am_m289) (am_rt am_m289)) := rfl
set_option maxRecDepth 20000 in
theorem am_c290 : am_at 9002 = some (Cond.code (am_y am_m290) (am_cc am_m290) (am_ml am_m290) (am_rt am_m290)) := rfl
set_option maxRecDepth 20000 in
theorem am_c291 : am_at 9006 = some (Cond.code (am_y am_m291) (am_cc am_m291) (am_ml am_m291) (am_rt am_m291)) := rfl
set_option maxRecDepth 20000 in
theorem am_c292 : am_at 9010 = some (Cond.code (am_y am_m292) (am_cc am_m292) (am_ml am_m292) (am_rt am_m292)) := rfl
set_option maxRecDepth 20000 in
theorem am_c293 : am_at 9014 = some (Cond.code (am_y am_m293) (am_cc am_m293) (am_ml am_m293) (am_rt am_m293)) := rfl
set_option maxRecDepth 20000 in
theorem am_c294 : am_at 9018 = some (Cond.code (am_y am_m294) (am_cc am_m294) (am_ml am_m294) (am_rt am_m294)) := rfl
set_option maxRecDepth 20000 in
theorem am_c295 : am_at 9022 = some (Cond.code (am_y am_m295) (am_cc am_m295) (am_ml am_m295) (am_rt am_m295)) := rfl
set_option maxRecDepth 20000 in
theorem am_c296 : am_at 9026 = some (Cond.code (am_y am_m296) (am_cc am_m296) (am_ml am_m296) (am_rt am_m296)) := rfl
set_option maxRecDepth 20000 in
theorem am_c297 : am_at 9031 = some (Cond.code (am_y am_m297) (am_cc am_m297) (am_ml am_m297) (am_rt am_m297)) := rfl
set_option maxRecDepth 20000 in
theorem am_c298 : am_at 9039 = some (Cond.code (am_y am_m298) (am_cc am_m298) (am_ml am_m298) (am_rt am_m298)) := rfl
set_option maxRecDepth 20000 in
theorem am_c299 : am_at 9043 = some (Cond.code (am_y am_m299) (am_cc am_m299) (am_ml am_m299) (am_rt am_m299)) := rfl
set_option maxRecDepth 20000 in
theorem am_c300 : am_at 9048 = some (Cond.code (am_y am_m300) (am_cc am_m300) (am_ml am_m300) (am_rt am_m300)) := rfl
set_option maxRecDepth 20000 in
theorem am_c301 : am_at 9052 = some (Cond.code (am_y am_m301) (am_cc am_m301) (am_ml am_m301) (am_rt am_m301)) := rfl
set_option maxRecDepth 20000 in
theorem am_c302 : am_at 9056 = some (Cond.code (am_y am_m302) (am_cc am_m302) (am_ml am_m302) (am_rt am_m302)) := rfl
set_option maxRecDepth 20000 in
theorem am_c303 : am_at 9060 = some (Cond.code (am_y am_m303) (am_cc am_m303) (am_ml am_m303) (am_rt am_m303)) := rfl
set_option maxRecDepth 20000 in
theorem am_c304 : am_at 9063 = some (Cond.code (am_y am_m304) (am_cc am_m304) (am_ml am_m304) (am_rt am_m304)) := rfl
set_option maxRecDepth 20000 in
theorem am_c305 : am_at 9067 = some (Cond.code (am_y am_m305) (am_cc am_m305) (am_ml am_m305) (am_rt am_m305)) := rfl
set_option maxRecDepth 20000 in
theorem am_c306 : am_at 9071 = some (Cond.code (am_y am_m306) (am_cc am_m306) (am_ml am_m306) (am_rt am_m306)) := rfl
set_option maxRecDepth 20000 in
theorem am_c307 : am_at 9075 = some (Cond.code (am_y am_m307) (am_cc am_m307) (am_ml am_m307) (am_rt am_m307)) := rfl
set_option maxRecDepth 20000 in
theorem am_c308 : am_at 9079 = some (Cond.code (am_y am_m308) (am_cc am_m308) (am_ml am_m308) (am_rt am_m308)) := rfl
set_option maxRecDepth 20000 in
theorem am_c309 : am_at 4020 = some (Cond.code (am_y am_m309) (am_cc am_m309) (am_ml am_m309) (am_rt am_m309)) := rfl
set_option maxRecDepth 20000 in
theorem am_c310 : am_at 2119 = some (Cond.code (am_y am_m310) (am_cc am_m310) (am_ml am_m310) (am_rt am_m310)) := rfl
set_option maxRecDepth 20000 in
theorem am_c311 : am_at 2122 = some (Cond.code (am_y am_m311) (am_cc am_m311) (am_ml am_m311) (am_rt am_m311)) := rfl
set_option maxRecDepth 20000 in
theorem am_c312 : am_at 4062 = some (Cond.code (am_y am_m312) (am_cc am_m312) (am_ml am_m312) (am_rt am_m312)) := rfl
set_option maxRecDepth 20000 in
theorem am_c313 : am_at 4065 = some (Cond.code (am_y am_m313) (am_cc am_m313) (am_ml am_m313) (am_rt am_m313)) := rfl
set_option maxRecDepth 20000 in
theorem am_c314 : am_at 4068 = some (Cond.code (am_y am_m314) (am_cc am_m314) (am_ml am_m314) (am_rt am_m314)) := rfl
set_option maxRecDepth 20000 in
theorem am_c315 : am_at 2173 = some (Cond.code (am_y am_m315) (am_cc am_m315) (am_ml am_m315) (am_rt am_m315)) := rfl
set_option maxRecDepth 20000 in
theorem am_c316 : am_at 2177 = some (Cond.code (am_y am_m316) (am_cc am_m316) (am_ml am_m316) (am_rt am_m316)) := rfl
set_option maxRecDepth 20000 in
theorem am_c317 : am_at 2183 = some (Cond.code (am_y am_m317) (am_cc am_m317) (am_ml am_m317) (am_rt am_m317)) := rfl
set_option maxRecDepth 20000 in
theorem am_c318 : am_at 2187 = some (Cond.code (am_y am_m318) (am_cc am_m318) (am_ml am_m318) (am_rt am_m318)) := rfl
set_option maxRecDepth 20000 in
theorem am_c319 : am_at 2190 = some (Cond.code (am_y am_m319) (am_cc am_m319) (am_ml am_m319) (am_rt am_m319)) := rfl
set_option maxRecDepth 20000 in
theorem am_c320 : am_at 2141 = some (Cond.code (am_y am_m320) (am_cc am_m320) (am_ml am_m320) (am_rt am_m320)) := rfl
set_option maxRecDepth 20000 in
theorem am_cO : am_at 1029 = some (Cond.code objectInit ⟨#[0xb1]⟩ 1 none) := rfl
end
section
theorem am_tc0 : ∀ N ∈ am_tb0, Cond.code (am_y N) (am_cc N) (am_ml N) (am_rt N) ∈ am_G := ((List.forall_mem_cons.mpr ⟨(am_mem am_c0 rfl), (List.forall_mem_cons.mpr ⟨(am_mem am_c1 rfl), (List.forall_mem_cons.mpr ⟨(am_mem am_c2 rfl), (List.forall_mem_cons.mpr ⟨(am_mem am_c3 rfl), (List.forall_mem_cons.mpr ⟨(am_mem am_c4 rfl), (List.forall_mem_cons.mpr ⟨(am_mem am_c5 rfl), (List.forall_mem_cons.mpr ⟨(am_mem am_c6 rfl), (List.forall_mem_cons.mpr ⟨(am_mem am_c7 rfl), (List.forall_mem_cons.mpr ⟨(am_mem am_c8 rfl), (List.forall_mem_cons.mpr ⟨(am_mem am_c9 rfl), (List.forall_mem_cons.mpr ⟨(am_mem am_c10 rfl), (List.forall_mem_cons.mpr ⟨(am_mem am_c11 rfl), (List.forall_mem_cons.mpr ⟨(am_mem am_c12 rfl), (List.forall_mem_cons.mpr ⟨(am_mem am_c13 rfl), (List.forall_mem_cons.mpr ⟨(am_mem am_c14 rfl), (List.forall_mem_cons.mpr ⟨(am_mem am_c15 rfl), (List.forall_mem_cons.mpr ⟨(am_mem am_c16 rfl), (List.forall_mem_cons.mpr ⟨(am_mem am_c17 rfl), (List.forall_mem_cons.mpr ⟨(am_mem am_c18 rfl), (List.forall_mem_cons.mpr ⟨(am_mem am_c19 rfl), (fun _ h => absurd h List.not_mem_nil)⟩)⟩)⟩)⟩)⟩)⟩)⟩)⟩)⟩)⟩)⟩)⟩)⟩)⟩)⟩)⟩)⟩)⟩)⟩)⟩) : ∀ N ∈ [am_m0, am_m1, am_m2, am_m3, am_m4, am_m5, am_m6, am_m7, am_m8, am_m9, am_m10, am_m11, am_m12, am_m13, am_m14, am_m15, am_m16, am_m17, am_m18, am_m19], Cond.code (am_y N) (am_cc N) (am_ml N) (am_rt N) ∈ am_G)
theorem am_tc1 : ∀ N ∈ am_tb1, Cond.code (am_y N) (am_cc N) (am_ml N) (am_rt N) ∈ am_G := ((List.forall_mem_cons.mpr ⟨(am_mem am_c20 rfl), (List.forall_mem_cons.mpr ⟨(am_mem am_c21 rfl), (List.forall_mem_cons.mpr ⟨(am_mem am_c22 rfl), (List.forall_mem_cons.mpr ⟨(am_mem am_c23 rfl), (List.forall_mem_cons.mpr ⟨(am_mem am_c24 rfl), (List.forall_mem_cons.mpr ⟨(am_mem am_c25 rfl), (List.forall_mem_cons.mpr ⟨(am_mem am_c26 rfl), (List.forall_mem_cons.mpr ⟨(am_mem am_c27 rfl), (List.forall_mem_cons.mpr ⟨(am_mem am_c28 rfl), (List.forall_mem_cons.mpr ⟨(am_mem am_c29 rfl), (List.forall_mem_cons.mpr ⟨(am_mem am_c30 rfl), (List.forall_mem_cons.mpr ⟨(am_mem am_c31 rfl), (List.forall_mem_cons.mpr ⟨(am_mem am_c32 rfl), (List.forall_mem_cons.mpr ⟨(am_mem am_c33 rfl), (List.forall_mem_cons.mpr ⟨(am_mem am_c34 rfl), (List.forall_mem_cons.mpr ⟨(am_mem am_c35 rfl), (List.forall_mem_cons.mpr ⟨(am_mem am_c36 rfl), (List.forall_mem_cons.mpr ⟨(am_mem am_c37 rfl), (List.forall_mem_cons.mpr ⟨(am_mem am_c38 rfl), (List.forall_mem_cons.mpr ⟨(am_mem am_c39 rfl), (fun _ h => absurd h List.not_mem_nil)⟩)⟩)⟩)⟩)⟩)⟩)⟩)⟩)⟩)⟩)⟩)⟩)⟩)⟩)⟩)⟩)⟩)⟩)⟩)⟩) : ∀ N ∈ [am_m20, am_m21, am_m22, am_m23, am_m24, am_m25, am_m26, am_m27, am_m28, am_m29, am_m30, am_m31, am_m32, am_m33, am_m34, am_m35, am_m36, am_m37, am_m38, am_m39], Cond.code (am_y N) (am_cc N) (am_ml N) (am_rt N) ∈ am_G)
theorem am_tc2 : ∀ N ∈ am_tb2, Cond.code (am_y N) (am_cc N) (am_ml N) (am_rt N) ∈ am_G := ((List.forall_mem_cons.mpr ⟨(am_mem am_c40 rfl), (List.forall_mem_cons.mpr ⟨(am_mem am_c41 rfl), (List.forall_mem_cons.mpr ⟨(am_mem am_c42 rfl), (List.forall_mem_cons.mpr ⟨(am_mem am_c43 rfl), (List.forall_mem_cons.mpr ⟨(am_mem am_c44 rfl), (List.forall_mem_cons.mpr ⟨(am_mem am_c45 rfl), (List.forall_mem_cons.mpr ⟨(am_mem am_c46 rfl), (List.forall_mem_cons.mpr ⟨(am_mem am_c47 rfl), (List.forall_mem_cons.mpr ⟨(am_mem am_c48 rfl), (List.forall_mem_cons.mpr ⟨(am_mem am_c49 rfl), (List.forall_mem_cons.mpr ⟨(am_mem am_c50 rfl), (List.forall_mem_cons.mpr ⟨(am_mem am_c51 rfl), (List.forall_mem_cons.mpr ⟨(am_mem am_c52 rfl), (List.forall_mem_cons.mpr ⟨(am_mem am_c53 rfl), (List.forall_mem_cons.mpr ⟨(am_mem am_c54 rfl), (List.forall_mem_cons.mpr ⟨(am_mem am_c55 rfl), (List.forall_mem_cons.mpr ⟨(am_mem am_c56 rfl), (List.forall_mem_cons.mpr ⟨(am_mem am_c57 rfl), (List.forall_mem_cons.mpr ⟨(am_mem am_c58 rfl), (List.forall_mem_cons.mpr ⟨(am_mem am_c59 rfl), (fun _ h => absurd h List.not_mem_nil)⟩)⟩)⟩)⟩)⟩)⟩)⟩)⟩)⟩)⟩)⟩)⟩)⟩)⟩)⟩)⟩)⟩)⟩)⟩)⟩) : ∀ N ∈ [am_m40, am_m41, am_m42, am_m43, am_m44, am_m45, am_m46, am_m47, am_m48, am_m49, am_m50, am_m51, am_m52, am_m53, am_m54, am_m55, am_m56, am_m57, am_m58, am_m59], Cond.code (am_y N) (am_cc N) (am_ml N) (am_rt N) ∈ am_G)
theorem am_tc3 : ∀ N ∈ am_tb3, Cond.code (am_y N) (am_cc N) (am_ml N) (am_rt N) ∈ am_G := ((List.forall_mem_cons.mpr ⟨(am_mem am_c60 rfl), (List.forall_mem_cons.mpr ⟨(am_mem am_c61 rfl), (List.forall_mem_cons.mpr ⟨(am_mem am_c62 rfl), (List.forall_mem_cons.mpr ⟨(am_mem am_c63 rfl), (List.forall_mem_cons.mpr ⟨(am_mem am_c64 rfl), (List.forall_mem_cons.mpr ⟨(am_mem am_c65 rfl), (List.forall_mem_cons.mpr ⟨(am_mem am_c66 rfl), (List.forall_mem_cons.mpr ⟨(am_mem am_c67 rfl), (List.forall_mem_cons.mpr ⟨(am_mem am_c68 rfl), (List.forall_mem_cons.mpr ⟨(am_mem am_c69 rfl), (List.forall_mem_cons.mpr ⟨(am_mem am_c70 rfl), (List.forall_mem_cons.mpr ⟨(am_mem am_c71 rfl), (List.forall_mem_cons.mpr ⟨(am_mem am_c72 rfl), (List.forall_mem_cons.mpr ⟨(am_mem am_c73 rfl), (List.forall_mem_cons.mpr ⟨(am_mem am_c74 rfl), (List.forall_mem_cons.mpr ⟨(am_mem am_c75 rfl), (List.forall_mem_cons.mpr ⟨(am_mem am_c76 rfl), (List.forall_mem_cons.mpr ⟨(am_mem am_c77 rfl), (List.forall_mem_cons.mpr ⟨(am_mem am_c78 rfl), (List.forall_mem_cons.mpr ⟨(am_mem am_c79 rfl), (fun _ h => absurd h List.not_mem_nil)⟩)⟩)⟩)⟩)⟩)⟩)⟩)⟩)⟩)⟩)⟩)⟩)⟩)⟩)⟩)⟩)⟩)⟩)⟩)⟩) : ∀ N ∈ [am_m60, am_m61, am_m62, am_m63, am_m64, am_m65, am_m66, am_m67, am_m68, am_m69, am_m70, am_m71, am_m72, am_m73, am_m74, am_m75, am_m76, am_m77, am_m78, am_m79], Cond.code (am_y N) (am_cc N) (am_ml N) (am_rt N) ∈ am_G)
theorem am_tc4 : ∀ N ∈ am_tb4, Cond.code (am_y N) (am_cc N) (am_ml N) (am_rt N) ∈ am_G := ((List.forall_mem_cons.mpr ⟨(am_mem am_c80 rfl), (List.forall_mem_cons.mpr ⟨(am_mem am_c81 rfl), (List.forall_mem_cons.mpr ⟨(am_mem am_c82 rfl), (List.forall_mem_cons.mpr ⟨(am_mem am_c83 rfl), (List.forall_mem_cons.mpr ⟨(am_mem am_c84 rfl), (List.forall_mem_cons.mpr ⟨(am_mem am_c85 rfl), (List.forall_mem_cons.mpr ⟨(am_mem am_c86 rfl), (List.forall_mem_cons.mpr ⟨(am_mem am_c87 rfl), (List.forall_mem_cons.mpr ⟨(am_mem am_c88 rfl), (List.forall_mem_cons.mpr ⟨(am_mem am_c89 rfl), (List.forall_mem_cons.mpr ⟨(am_mem am_c90 rfl), (List.forall_mem_cons.mpr ⟨(am_mem am_c91 rfl), (List.forall_mem_cons.mpr ⟨(am_mem am_c92 rfl), (List.forall_mem_cons.mpr ⟨(am_mem am_c93 rfl), (List.forall_mem_cons.mpr ⟨(am_mem am_c94 rfl), (List.forall_mem_cons.mpr ⟨(am_mem am_c95 rfl), (List.forall_mem_cons.mpr ⟨(am_mem am_c96 rfl), (List.forall_mem_cons.mpr ⟨(am_mem am_c97 rfl), (List.forall_mem_cons.mpr ⟨(am_mem am_c98 rfl), (List.forall_mem_cons.mpr ⟨(am_mem am_c99 rfl), (fun _ h => absurd h List.not_mem_nil)⟩)⟩)⟩)⟩)⟩)⟩)⟩)⟩)⟩)⟩)⟩)⟩)⟩)⟩)⟩)⟩)⟩)⟩)⟩)⟩) : ∀ N ∈ [am_m80, am_m81, am_m82, am_m83, am_m84, am_m85, am_m86, am_m87, am_m88, am_m89, am_m90, am_m91, am_m92, am_m93, am_m94, am_m95, am_m96, am_m97, am_m98, am_m99], Cond.code (am_y N) (am_cc N) (am_ml N) (am_rt N) ∈ am_G)
theorem am_tc5 : ∀ N ∈ am_tb5, Cond.code (am_y N) (am_cc N) (am_ml N) (am_rt N) ∈ am_G := ((List.forall_mem_cons.mpr ⟨(am_mem am_c100 rfl), (List.forall_mem_cons.mpr ⟨(am_mem am_c101 rfl), (List.forall_mem_cons.mpr ⟨(am_mem am_c102 rfl), (List.forall_mem_cons.mpr ⟨(am_mem am_c103 rfl), (List.forall_mem_cons.mpr ⟨(am_mem am_c104 rfl), (List.forall_mem_cons.mpr ⟨(am_mem am_c105 rfl), (List.forall_mem_cons.mpr ⟨(am_mem am_c106 rfl), (List.forall_mem_cons.mpr ⟨(am_mem am_c107 rfl), (List.forall_mem_cons.mpr ⟨(am_mem am_c108 rfl), (List.forall_mem_cons.mpr ⟨(am_mem am_c109 rfl), (List.forall_mem_cons.mpr ⟨(am_mem am_c110 rfl), (List.forall_mem_cons.mpr ⟨(am_mem am_c111 rfl), (List.forall_mem_cons.mpr ⟨(am_mem am_c112 rfl), (List.forall_mem_cons.mpr ⟨(am_mem am_c113 rfl), (List.forall_mem_cons.mpr ⟨(am_mem am_c114 rfl), (List.forall_mem_cons.mpr ⟨(am_mem am_c115 rfl), (List.forall_mem_cons.mpr ⟨(am_mem am_c116 rfl), (List.forall_mem_cons.mpr ⟨(am_mem am_c117 rfl), (List.forall_mem_cons.mpr ⟨(am_mem am_c118 rfl), (List.forall_mem_cons.mpr ⟨(am_mem am_c119 rfl), (fun _ h => absurd h List.not_mem_nil)⟩)⟩)⟩)⟩)⟩)⟩)⟩)⟩)⟩)⟩)⟩)⟩)⟩)⟩)⟩)⟩)⟩)⟩)⟩)⟩) : ∀ N ∈ [am_m100, am_m101, am_m102, am_m103, am_m104, am_m105, am_m106, am_m107, am_m108, am_m109, am_m110, am_m111, am_m112, am_m113, am_m114, am_m115, am_m116, am_m117, am_m118, am_m119], Cond.code (am_y N) (am_cc N) (am_ml N) (am_rt N) ∈ am_G)
theorem am_tc6 : ∀ N ∈ am_tb6, Cond.code (am_y N) (am_cc N) (am_ml N) (am_rt N) ∈ am_G := ((List.forall_mem_cons.mpr ⟨(am_mem am_c120 rfl), (List.forall_mem_cons.mpr ⟨(am_mem am_c121 rfl), (List.forall_mem_cons.mpr ⟨(am_mem am_c122 rfl), (List.forall_mem_cons.mpr ⟨(am_mem am_c123 rfl), (List.forall_mem_cons.mpr ⟨(am_mem am_c124 rfl), (List.forall_mem_cons.mpr ⟨(am_mem am_c125 rfl), (List.forall_mem_cons.mpr ⟨(am_mem am_c126 rfl), (List.forall_mem_cons.mpr ⟨(am_mem am_c127 rfl), (List.forall_mem_cons.mpr ⟨(am_mem am_c128 rfl), (List.forall_mem_cons.mpr ⟨(am_mem am_c129 rfl), (List.forall_mem_cons.mpr ⟨(am_mem am_c130 rfl), (List.forall_mem_cons.mpr ⟨(am_mem am_c131 rfl), (List.forall_mem_cons.mpr ⟨(am_mem am_c132 rfl), (List.forall_mem_cons.mpr ⟨(am_mem am_c133 rfl), (List.forall_mem_cons.mpr ⟨(am_mem am_c134 rfl), (List.forall_mem_cons.mpr ⟨(am_mem am_c135 rfl), (List.forall_mem_cons.mpr ⟨(am_mem am_c136 rfl), (List.forall_mem_cons.mpr ⟨(am_mem am_c137 rfl), (List.forall_mem_cons.mpr ⟨(am_mem am_c138 rfl), (List.forall_mem_cons.mpr ⟨(am_mem am_c139 rfl), (fun _ h => absurd h List.not_mem_nil)⟩)⟩)⟩)⟩)⟩)⟩)⟩)⟩)⟩)⟩)⟩)⟩)⟩)⟩)⟩)⟩)⟩)⟩)⟩)⟩) : ∀ N ∈ [am_m120, am_m121, am_m122, am_m123, am_m124, am_m125, am_m126, am_m127, am_m128, am_m129, am_m130, am_m131, am_m132, am_m133, am_m134, am_m135, am_m136, am_m137, am_m138, am_m139], Cond.code (am_y N) (am_cc N) (am_ml N) (am_rt N) ∈ am_G)
theorem am_tc7 : ∀ N ∈ am_tb7, Cond.code (am_y N) (am_cc N) (am_ml N) (am_rt N) ∈ am_G := ((List.forall_mem_cons.mpr ⟨(am_mem am_c140 rfl), (List.forall_mem_cons.mpr ⟨(am_mem am_c141 rfl), (List.forall_mem_cons.mpr ⟨(am_mem am_c142 rfl), (List.forall_mem_cons.mpr ⟨(am_mem am_c143 rfl), (List.forall_mem_cons.mpr ⟨(am_mem am_c144 rfl), (List.forall_mem_cons.mpr ⟨(am_mem am_c145 rfl), (List.forall_mem_cons.mpr ⟨(am_mem am_c146 rfl), (List.forall_mem_cons.mpr ⟨(am_mem am_c147 rfl), (List.forall_mem_cons.mpr ⟨(am_mem am_c148 rfl), (List.forall_mem_cons.mpr ⟨(am_mem am_c149 rfl), (List.forall_mem_cons.mpr ⟨(am_mem am_c150 rfl), (List.forall_mem_cons.mpr ⟨(am_mem am_c151 rfl), (List.forall_mem_cons.mpr ⟨(am_mem am_c152 rfl), (List.forall_mem_cons.mpr ⟨(am_mem am_c153 rfl), (List.forall_mem_cons.mpr ⟨(am_mem am_c154 rfl), (List.forall_mem_cons.mpr ⟨(am_mem am_c155 rfl), (List.forall_mem_cons.mpr ⟨(am_mem am_c156 rfl), (List.forall_mem_cons.mpr ⟨(am_mem am_c157 rfl), (List.forall_mem_cons.mpr ⟨(am_mem am_c158 rfl), (List.forall_mem_cons.mpr ⟨(am_mem am_c159 rfl), (fun _ h => absurd h List.not_mem_nil)⟩)⟩)⟩)⟩)⟩)⟩)⟩)⟩)⟩)⟩)⟩)⟩)⟩)⟩)⟩)⟩)⟩)⟩)⟩)⟩) : ∀ N ∈ [am_m140, am_m141, am_m142, am_m143, am_m144, am_m145, am_m146, am_m147, am_m148, am_m149, am_m150, am_m151, am_m152, am_m153, am_m154, am_m155, am_m156, am_m157, am_m158, am_m159], Cond.code (am_y N) (am_cc N) (am_ml N) (am_rt N) ∈ am_G)
theorem am_tc8 : ∀ N ∈ am_tb8, Cond.code (am_y N) (am_cc N) (am_ml N) (am_rt N) ∈ am_G := ((List.forall_mem_cons.mpr ⟨(am_mem am_c160 rfl), (List.forall_mem_cons.mpr ⟨(am_mem am_c161 rfl), (List.forall_mem_cons.mpr ⟨(am_mem am_c162 rfl), (List.forall_mem_cons.mpr ⟨(am_mem am_c163 rfl), (List.forall_mem_cons.mpr ⟨(am_mem am_c164 rfl), (List.forall_mem_cons.mpr ⟨(am_mem am_c165 rfl), (List.forall_mem_cons.mpr ⟨(am_mem am_c166 rfl), (List.forall_mem_cons.mpr ⟨(am_mem am_c167 rfl), (List.forall_mem_cons.mpr ⟨(am_mem am_c168 rfl), (List.forall_mem_cons.mpr ⟨(am_mem am_c169 rfl), (List.forall_mem_cons.mpr ⟨(am_mem am_c170 rfl), (List.forall_mem_cons.mpr ⟨(am_mem am_c171 rfl), (List.forall_mem_cons.mpr ⟨(am_mem am_c172 rfl), (List.forall_mem_cons.mpr ⟨(am_mem am_c173 rfl), (List.forall_mem_cons.mpr ⟨(am_mem am_c174 rfl), (List.forall_mem_cons.mpr ⟨(am_mem am_c175 rfl), (List.forall_mem_cons.mpr ⟨(am_mem am_c176 rfl), (List.forall_mem_cons.mpr ⟨(am_mem am_c177 rfl), (List.forall_mem_cons.mpr ⟨(am_mem am_c178 rfl), (List.forall_mem_cons.mpr ⟨(am_mem am_c179 rfl), (fun _ h => absurd h List.not_mem_nil)⟩)⟩)⟩)⟩)⟩)⟩)⟩)⟩)⟩)⟩)⟩)⟩)⟩)⟩)⟩)⟩)⟩)⟩)⟩)⟩) : ∀ N ∈ [am_m160, am_m161, am_m162, am_m163, am_m164, am_m165, am_m166, am_m167, am_m168, am_m169, am_m170, am_m171, am_m172, am_m173, am_m174, am_m175, am_m176, am_m177, am_m178, am_m179], Cond.code (am_y N) (am_cc N) (am_ml N) (am_rt N) ∈ am_G)
theorem am_tc9 : ∀ N ∈ am_tb9, Cond.code (am_y N) (am_cc N) (am_ml N) (am_rt N) ∈ am_G := ((List.forall_mem_cons.mpr ⟨(am_mem am_c180 rfl), (List.forall_mem_cons.mpr ⟨(am_mem am_c181 rfl), (List.forall_mem_cons.mpr ⟨(am_mem am_c182 rfl), (List.forall_mem_cons.mpr ⟨(am_mem am_c183 rfl), (List.forall_mem_cons.mpr ⟨(am_mem am_c184 rfl), (List.forall_mem_cons.mpr ⟨(am_mem am_c185 rfl), (List.forall_mem_cons.mpr ⟨(am_mem am_c186 rfl), (List.forall_mem_cons.mpr ⟨(am_mem am_c187 rfl), (List.forall_mem_cons.mpr ⟨(am_mem am_c188 rfl), (List.forall_mem_cons.mpr ⟨(am_mem am_c189 rfl), (List.forall_mem_cons.mpr ⟨(am_mem am_c190 rfl), (List.forall_mem_cons.mpr ⟨(am_mem am_c191 rfl), (List.forall_mem_cons.mpr ⟨(am_mem am_c192 rfl), (List.forall_mem_cons.mpr ⟨(am_mem am_c193 rfl), (List.forall_mem_cons.mpr ⟨(am_mem am_c194 rfl), (List.forall_mem_cons.mpr ⟨(am_mem am_c195 rfl), (List.forall_mem_cons.mpr ⟨(am_mem am_c196 rfl), (List.forall_mem_cons.mpr ⟨(am_mem am_c197 rfl), (List.forall_mem_cons.mpr ⟨(am_mem am_c198 rfl), (List.forall_mem_cons.mpr ⟨(am_mem am_c199 rfl), (fun _ h => absurd h List.not_mem_nil)⟩)⟩)⟩)⟩)⟩)⟩)⟩)⟩)⟩)⟩)⟩)⟩)⟩)⟩)⟩)⟩)⟩)⟩)⟩)⟩) : ∀ N ∈ [am_m180, am_m181, am_m182, am_m183, am_m184, am_m185, am_m186, am_m187, am_m188, am_m189, am_m190, am_m191, am_m192, am_m193, am_m194, am_m195, am_m196, am_m197, am_m198, am_m199], Cond.code (am_y N) (am_cc N) (am_ml N) (am_rt N) ∈ am_G)
theorem am_tc10 : ∀ N ∈ am_tb10, Cond.code (am_y N) (am_cc N) (am_ml N) (am_rt N) ∈ am_G := ((List.forall_mem_cons.mpr ⟨(am_mem am_c200 rfl), (List.forall_mem_cons.mpr ⟨(am_mem am_c201 rfl), (List.forall_mem_cons.mpr ⟨(am_mem am_c202 rfl), (List.forall_mem_cons.mpr ⟨(am_mem am_c203 rfl), (List.forall_mem_cons.mpr ⟨(am_mem am_c204 rfl), (List.forall_mem_cons.mpr ⟨(am_mem am_c205 rfl), (List.forall_mem_cons.mpr ⟨(am_mem am_c206 rfl), (List.forall_mem_cons.mpr ⟨(am_mem am_c207 rfl), (List.forall_mem_cons.mpr ⟨(am_mem am_c208 rfl), (List.forall_mem_cons.mpr ⟨(am_mem am_c209 rfl), (List.forall_mem_cons.mpr ⟨(am_mem am_c210 rfl), (List.forall_mem_cons.mpr ⟨(am_mem am_c211 rfl), (List.forall_mem_cons.mpr ⟨(am_mem am_c212 rfl), (List.forall_mem_cons.mpr ⟨(am_mem am_c213 rfl), (List.forall_mem_cons.mpr ⟨(am_mem am_c214 rfl), (List.forall_mem_cons.mpr ⟨(am_mem am_c215 rfl), (List.forall_mem_cons.mpr ⟨(am_mem am_c216 rfl), (List.forall_mem_cons.mpr ⟨(am_mem am_c217 rfl), (List.forall_mem_cons.mpr ⟨(am_mem am_c218 rfl), (List.forall_mem_cons.mpr ⟨(am_mem am_c219 rfl), (fun _ h => absurd h List.not_mem_nil)⟩)⟩)⟩)⟩)⟩)⟩)⟩)⟩)⟩)⟩)⟩)⟩)⟩)⟩)⟩)⟩)⟩)⟩)⟩)⟩) : ∀ N ∈ [am_m200, am_m201, am_m202, am_m203, am_m204, am_m205, am_m206, am_m207, am_m208, am_m209, am_m210, am_m211, am_m212, am_m213, am_m214, am_m215, am_m216, am_m217, am_m218, am_m219], Cond.code (am_y N) (am_cc N) (am_ml N) (am_rt N) ∈ am_G)
theorem am_tc11 : ∀ N ∈ am_tb11, Cond.code (am_y N) (am_cc N) (am_ml N) (am_rt N) ∈ am_G := ((List.forall_mem_cons.mpr ⟨(am_mem am_c220 rfl), (List.forall_mem_cons.mpr ⟨(am_mem am_c221 rfl), (List.forall_mem_cons.mpr ⟨(am_mem am_c222 rfl), (List.forall_mem_cons.mpr ⟨(am_mem am_c223 rfl), (List.forall_mem_cons.mpr ⟨(am_mem am_c224 rfl), (List.forall_mem_cons.mpr ⟨(am_mem am_c225 rfl), (List.forall_mem_cons.mpr ⟨(am_mem am_c226 rfl), (List.forall_mem_cons.mpr ⟨(am_mem am_c227 rfl), (List.forall_mem_cons.mpr ⟨(am_mem am_c228 rfl), (List.forall_mem_cons.mpr ⟨(am_mem am_c229 rfl), (List.forall_mem_cons.mpr ⟨(am_mem am_c230 rfl), (List.forall_mem_cons.mpr ⟨(am_mem am_c231 rfl), (List.forall_mem_cons.mpr ⟨(am_mem am_c232 rfl), (List.forall_mem_cons.mpr ⟨(am_mem am_c233 rfl), (List.forall_mem_cons.mpr ⟨(am_mem am_c234 rfl), (List.forall_mem_cons.mpr ⟨(am_mem am_c235 rfl), (List.forall_mem_cons.mpr ⟨(am_mem am_c236 rfl), (List.forall_mem_cons.mpr ⟨(am_mem am_c237 rfl), (List.forall_mem_cons.mpr ⟨(am_mem am_c238 rfl), (List.forall_mem_cons.mpr ⟨(am_mem am_c239 rfl), (fun _ h => absurd h List.not_mem_nil)⟩)⟩)⟩)⟩)⟩)⟩)⟩)⟩)⟩)⟩)⟩)⟩)⟩)⟩)⟩)⟩)⟩)⟩)⟩)⟩) : ∀ N ∈ [am_m220, am_m221, am_m222, am_m223, am_m224, am_m225, am_m226, am_m227, am_m228, am_m229, am_m230, am_m231, am_m232, am_m233, am_m234, am_m235, am_m236, am_m237, am_m238, am_m239], Cond.code (am_y N) (am_cc N) (am_ml N) (am_rt N) ∈ am_G)
theorem am_tc12 : ∀ N ∈ am_tb12, Cond.code (am_y N) (am_cc N) (am_ml N) (am_rt N) ∈ am_G := ((List.forall_mem_cons.mpr ⟨(am_mem am_c240 rfl), (List.forall_mem_cons.mpr ⟨(am_mem am_c241 rfl), (List.forall_mem_cons.mpr ⟨(am_mem am_c242 rfl), (List.forall_mem_cons.mpr ⟨(am_mem am_c243 rfl), (List.forall_mem_cons.mpr ⟨(am_mem am_c244 rfl), (List.forall_mem_cons.mpr ⟨(am_mem am_c245 rfl), (List.forall_mem_cons.mpr ⟨(am_mem am_c246 rfl), (List.forall_mem_cons.mpr ⟨(am_mem am_c247 rfl), (List.forall_mem_cons.mpr ⟨(am_mem am_c248 rfl), (List.forall_mem_cons.mpr ⟨(am_mem am_c249 rfl), (List.forall_mem_cons.mpr ⟨(am_mem am_c250 rfl), (List.forall_mem_cons.mpr ⟨(am_mem am_c251 rfl), (List.forall_mem_cons.mpr ⟨(am_mem am_c252 rfl), (List.forall_mem_cons.mpr ⟨(am_mem am_c253 rfl), (List.forall_mem_cons.mpr ⟨(am_mem am_c254 rfl), (List.forall_mem_cons.mpr ⟨(am_mem am_c255 rfl), (List.forall_mem_cons.mpr ⟨(am_mem am_c256 rfl), (List.forall_mem_cons.mpr ⟨(am_mem am_c257 rfl), (List.forall_mem_cons.mpr ⟨(am_mem am_c258 rfl), (List.forall_mem_cons.mpr ⟨(am_mem am_c259 rfl), (fun _ h => absurd h List.not_mem_nil)⟩)⟩)⟩)⟩)⟩)⟩)⟩)⟩)⟩)⟩)⟩)⟩)⟩)⟩)⟩)⟩)⟩)⟩)⟩)⟩) : ∀ N ∈ [am_m240, am_m241, am_m242, am_m243, am_m244, am_m245, am_m246, am_m247, am_m248, am_m249, am_m250, am_m251, am_m252, am_m253, am_m254, am_m255, am_m256, am_m257, am_m258, am_m259], Cond.code (am_y N) (am_cc N) (am_ml N) (am_rt N) ∈ am_G)
theorem am_tc13 : ∀ N ∈ am_tb13, Cond.code (am_y N) (am_cc N) (am_ml N) (am_rt N) ∈ am_G := ((List.forall_mem_cons.mpr ⟨(am_mem am_c260 rfl), (List.forall_mem_cons.mpr ⟨(am_mem am_c261 rfl), (List.forall_mem_cons.mpr ⟨(am_mem am_c262 rfl), (List.forall_mem_cons.mpr ⟨(am_mem am_c263 rfl), (List.forall_mem_cons.mpr ⟨(am_mem am_c264 rfl), (List.forall_mem_cons.mpr ⟨(am_mem am_c265 rfl), (List.forall_mem_cons.mpr ⟨(am_mem am_c266 rfl), (List.forall_mem_cons.mpr ⟨(am_mem am_c267 rfl), (List.forall_mem_cons.mpr ⟨(am_mem am_c268 rfl), (List.forall_mem_cons.mpr ⟨(am_mem am_c269 rfl), (List.forall_mem_cons.mpr ⟨(am_mem am_c270 rfl), (List.forall_mem_cons.mpr ⟨(am_mem am_c271 rfl), (List.forall_mem_cons.mpr ⟨(am_mem am_c272 rfl), (List.forall_mem_cons.mpr ⟨(am_mem am_c273 rfl), (List.forall_mem_cons.mpr ⟨(am_mem am_c274 rfl), (List.forall_mem_cons.mpr ⟨(am_mem am_c275 rfl), (List.forall_mem_cons.mpr ⟨(am_mem am_c276 rfl), (List.forall_mem_cons.mpr ⟨(am_mem am_c277 rfl), (List.forall_mem_cons.mpr ⟨(am_mem am_c278 rfl), (List.forall_mem_cons.mpr ⟨(am_mem am_c279 rfl), (fun _ h => absurd h List.not_mem_nil)⟩)⟩)⟩)⟩)⟩)⟩)⟩)⟩)⟩)⟩)⟩)⟩)⟩)⟩)⟩)⟩)⟩)⟩)⟩)⟩) : ∀ N ∈ [am_m260, am_m261, am_m262, am_m263, am_m264, am_m265, am_m266, am_m267, am_m268, am_m269, am_m270, am_m271, am_m272, am_m273, am_m274, am_m275, am_m276, am_m277, am_m278, am_m279], Cond.code (am_y N) (am_cc N) (am_ml N) (am_rt N) ∈ am_G)
theorem am_tc14 : ∀ N ∈ am_tb14, Cond.code (am_y N) (am_cc N) (am_ml N) (am_rt N) ∈ am_G := ((List.forall_mem_cons.mpr ⟨(am_mem am_c280 rfl), (List.forall_mem_cons.mpr ⟨(am_mem am_c281 rfl), (List.forall_mem_cons.mpr ⟨(am_mem am_c282 rfl), (List.forall_mem_cons.mpr ⟨(am_mem am_c283 rfl), (List.forall_mem_cons.mpr ⟨(am_mem am_c284 rfl), (List.forall_mem_cons.mpr ⟨(am_mem am_c285 rfl), (List.forall_mem_cons.mpr ⟨(am_mem am_c286 rfl), (List.forall_mem_cons.mpr ⟨(am_mem am_c287 rfl), (List.forall_mem_cons.mpr ⟨(am_mem am_c288 rfl), (List.forall_mem_cons.mpr ⟨(am_mem am_c289 rfl), (List.forall_mem_cons.mpr ⟨(am_mem am_c290 rfl), (List.forall_mem_cons.mpr ⟨(am_mem am_c291 rfl), (List.forall_mem_cons.mpr ⟨(am_mem am_c292 rfl), (List.forall_mem_cons.mpr ⟨(am_mem am_c293 rfl), (List.forall_mem_cons.mpr ⟨(am_mem am_c294 rfl), (List.forall_mem_cons.mpr ⟨(am_mem am_c295 rfl), (List.forall_mem_cons.mpr ⟨(am_mem am_c296 rfl), (List.forall_mem_cons.mpr ⟨(am_mem am_c297 rfl), (List.forall_mem_cons.mpr ⟨(am_mem am_c298 rfl), (List.forall_mem_cons.mpr ⟨(am_mem am_c299 rfl), (fun _ h => absurd h List.not_mem_nil)⟩)⟩)⟩)⟩)⟩)⟩)⟩)⟩)⟩)⟩)⟩)⟩)⟩)⟩)⟩)⟩)⟩)⟩)⟩)⟩) : ∀ N ∈ [am_m280, am_m281, am_m282, am_m283, am_m284, am_m285, am_m286, am_m287, am_m288, am_m289, am_m290, am_m291, am_m292, am_m293, am_m294, am_m295, am_m296, am_m297, am_m298, am_m299], Cond.code (am_y N) (am_cc N) (am_ml N) (am_rt N) ∈ am_G)
theorem am_tc15 : ∀ N ∈ am_tb15, Cond.code (am_y N) (am_cc N) (am_ml N) (am_rt N) ∈ am_G := ((List.forall_mem_cons.mpr ⟨(am_mem am_c300 rfl), (List.forall_mem_cons.mpr ⟨(am_mem am_c301 rfl), (List.forall_mem_cons.mpr ⟨(am_mem am_c302 rfl), (List.forall_mem_cons.mpr ⟨(am_mem am_c303 rfl), (List.forall_mem_cons.mpr ⟨(am_mem am_c304 rfl), (List.forall_mem_cons.mpr ⟨(am_mem am_c305 rfl), (List.forall_mem_cons.mpr ⟨(am_mem am_c306 rfl), (List.forall_mem_cons.mpr ⟨(am_mem am_c307 rfl), (List.forall_mem_cons.mpr ⟨(am_mem am_c308 rfl), (List.forall_mem_cons.mpr ⟨(am_mem am_c309 rfl), (List.forall_mem_cons.mpr ⟨(am_mem am_c310 rfl), (List.forall_mem_cons.mpr ⟨(am_mem am_c311 rfl), (List.forall_mem_cons.mpr ⟨(am_mem am_c312 rfl), (List.forall_mem_cons.mpr ⟨(am_mem am_c313 rfl), (List.forall_mem_cons.mpr ⟨(am_mem am_c314 rfl), (List.forall_mem_cons.mpr ⟨(am_mem am_c315 rfl), (List.forall_mem_cons.mpr ⟨(am_mem am_c316 rfl), (List.forall_mem_cons.mpr ⟨(am_mem am_c317 rfl), (List.forall_mem_cons.mpr ⟨(am_mem am_c318 rfl), (List.forall_mem_cons.mpr ⟨(am_mem am_c319 rfl), (fun _ h => absurd h List.not_mem_nil)⟩)⟩)⟩)⟩)⟩)⟩)⟩)⟩)⟩)⟩)⟩)⟩)⟩)⟩)⟩)⟩)⟩)⟩)⟩)⟩) : ∀ N ∈ [am_m300, am_m301, am_m302, am_m303, am_m304, am_m305, am_m306, am_m307, am_m308, am_m309, am_m310, am_m311, am_m312, am_m313, am_m314, am_m315, am_m316, am_m317, am_m318, am_m319], Cond.code (am_y N) (am_cc N) (am_ml N) (am_rt N) ∈ am_G)
theorem am_tc16 : ∀ N ∈ am_tb16, Cond.code (am_y N) (am_cc N) (am_ml N) (am_rt N) ∈ am_G := ((List.forall_mem_cons.mpr ⟨(am_mem am_c320 rfl), (fun _ h => absurd h List.not_mem_nil)⟩) : ∀ N ∈ [am_m320], Cond.code (am_y N) (am_cc N) (am_ml N) (am_rt N) ∈ am_G)
theorem am_okC {j : Nat} {N : am_M} (h : am_tab j = some N) : Cond.code (am_y N) (am_cc N) (am_ml N) (am_rt N) ∈ am_G := by
  unfold am_tab at h
  have h1 := List.mem_of_getElem? h
  generalize j / 20 = k at h1
  match k, h1 with
  | 0, h1 => exact am_tc0 N h1
  | 1, h1 => exact am_tc1 N h1
  | 2, h1 => exact am_tc2 N h1
  | 3, h1 => exact am_tc3 N h1
  | 4, h1 => exact am_tc4 N h1
  | 5, h1 => exact am_tc5 N h1
  | 6, h1 => exact am_tc6 N h1
  | 7, h1 => exact am_tc7 N h1
  | 8, h1 => exact am_tc8 N h1
  | 9, h1 => exact am_tc9 N h1
  | 10, h1 => exact am_tc10 N h1
  | 11, h1 => exact am_tc11 N h1
  | 12, h1 => exact am_tc12 N h1
  | 13, h1 => exact am_tc13 N h1
  | 14, h1 => exact am_tc14 N h1
  | 15, h1 => exact am_tc15 N h1
  | 16, h1 => exact am_tc16 N h1
  | k + 17, h1 => simp at h1
end
section
theorem am_okM {j : Nat} {N : am_M} (h : am_tab j = some N) : am_okD N = true := sorry
theorem am_dL : am_okD am_mL = true := sorry
end
section
/-! fields: their types, their names apart, their words -/
def am_ckw (ws : List Cond) (ps : List Nat) : Bool := decide (ws.length = ps.length) && (ws.zip ps).all (fun q => decide (am_at q.2 = some q.1) && goodWord q.1)
theorem am_ckw_ok {ws : List Cond} {ps : List Nat} (h : am_ckw ws ps = true) : ∀ w ∈ ws, w ∈ am_G := by
  simp only [am_ckw, Bool.and_eq_true, decide_eq_true_eq] at h
  intro w hw
  obtain ⟨k, hk⟩ := List.mem_iff_getElem?.mp hw
  have hkl : k < ps.length := by rw [← h.1]; exact (List.getElem?_eq_some_iff.mp hk).1
  have hz2 : (ws.zip ps)[k]? = some (w, ps[k]) := by rw [List.getElem?_zip_eq_some]; exact ⟨hk, List.getElem?_eq_getElem hkl⟩
  have h5 := List.all_eq_true.mp h.2 _ (List.mem_of_getElem? hz2)
  simp only [Bool.and_eq_true, decide_eq_true_eq] at h5
  exact am_mem h5.1 h5.2
theorem am_ty0 : ∀ k, k < 4 → parseFieldDescriptor (am_T0 k).2.2.1 = some (am_Y0 k) := by decide +kernel
theorem am_nm0 : ∀ a, a < 4 → ∀ b, b < 4 → a ≠ b → (am_T0 a).2.1 ≠ (am_T0 b).2.1 := by decide +kernel
theorem am_lay0 : ∀ w ∈ u_ws "LockOrchestra$Code" am_T0 4, w ∈ am_G := am_ckw_ok (ps := [1111, 1113, 1115, 1117]) (by decide +kernel)
theorem am_ty1 : ∀ k, k < 15 → parseFieldDescriptor (am_T1 k).2.2.1 = some (am_Y1 k) := by decide +kernel
theorem am_nm1 : ∀ a, a < 15 → ∀ b, b < 15 → a ≠ b → (am_T1 a).2.1 ≠ (am_T1 b).2.1 := by decide +kernel
theorem am_lay1 : ∀ w ∈ u_ws "LockOrchestra$Hall" am_T1 15, w ∈ am_G := am_ckw_ok (ps := [1236, 1238, 2000, 2002, 2004, 2006, 2008, 2010, 2012, 2014, 2016, 2018, 2020, 2022, 2024]) (by decide +kernel)
theorem am_ty2 : ∀ k, k < 2 → parseFieldDescriptor (am_T2 k).2.2.1 = some (am_Y2 k) := by decide +kernel
theorem am_nm2 : ∀ a, a < 2 → ∀ b, b < 2 → a ≠ b → (am_T2 a).2.1 ≠ (am_T2 b).2.1 := by decide +kernel
theorem am_lay2 : ∀ w ∈ u_ws "LockOrchestra$HallReader" am_T2 2, w ∈ am_G := am_ckw_ok (ps := [1090, 1092]) (by decide +kernel)
theorem am_ty3 : ∀ k, k < 3 → parseFieldDescriptor (am_T3 k).2.2.1 = some (am_Y3 k) := by decide +kernel
theorem am_nm3 : ∀ a, a < 3 → ∀ b, b < 3 → a ≠ b → (am_T3 a).2.1 ≠ (am_T3 b).2.1 := by decide +kernel
theorem am_lay3 : ∀ w ∈ u_ws "LockOrchestra$Heard" am_T3 3, w ∈ am_G := am_ckw_ok (ps := [1185, 1187, 1189]) (by decide +kernel)
theorem am_ty4 : ∀ k, k < 2 → parseFieldDescriptor (am_T4 k).2.2.1 = some (am_Y4 k) := by decide +kernel
theorem am_nm4 : ∀ a, a < 2 → ∀ b, b < 2 → a ≠ b → (am_T4 a).2.1 ≠ (am_T4 b).2.1 := by decide +kernel
theorem am_lay4 : ∀ w ∈ u_ws "LockOrchestra$Piece" am_T4 2, w ∈ am_G := am_ckw_ok (ps := [1171, 1173]) (by decide +kernel)
theorem am_ty5 : ∀ k, k < 4 → parseFieldDescriptor (am_T5 k).2.2.1 = some (am_Y5 k) := by decide +kernel
theorem am_nm5 : ∀ a, a < 4 → ∀ b, b < 4 → a ≠ b → (am_T5 a).2.1 ≠ (am_T5 b).2.1 := by decide +kernel
theorem am_lay5 : ∀ w ∈ u_ws "LockOrchestra$Question" am_T5 4, w ∈ am_G := am_ckw_ok (ps := [1126, 1128, 1130, 1132]) (by decide +kernel)
theorem am_ty6 : ∀ k, k < 7 → parseFieldDescriptor (am_T6 k).2.2.1 = some (am_Y6 k) := by decide +kernel
theorem am_nm6 : ∀ a, a < 7 → ∀ b, b < 7 → a ≠ b → (am_T6 a).2.1 ≠ (am_T6 b).2.1 := by decide +kernel
theorem am_lay6 : ∀ w ∈ u_ws "LockOrchestra$Search" am_T6 7, w ∈ am_G := am_ckw_ok (ps := [1148, 1150, 1152, 1154, 1156, 1158, 1160]) (by decide +kernel)
theorem am_ty7 : ∀ k, k < 4 → parseFieldDescriptor (am_T7 k).2.2.1 = some (am_Y7 k) := by decide +kernel
theorem am_nm7 : ∀ a, a < 4 → ∀ b, b < 4 → a ≠ b → (am_T7 a).2.1 ≠ (am_T7 b).2.1 := by decide +kernel
theorem am_lay7 : ∀ w ∈ u_ws "LockOrchestra$Story" am_T7 4, w ∈ am_G := am_ckw_ok (ps := [1204, 1206, 1208, 1210]) (by decide +kernel)
theorem am_ty8 : ∀ k, k < 2 → parseFieldDescriptor (am_T8 k).2.2.1 = some (am_Y8 k) := by decide +kernel
theorem am_nm8 : ∀ a, a < 2 → ∀ b, b < 2 → a ≠ b → (am_T8 a).2.1 ≠ (am_T8 b).2.1 := by decide +kernel
theorem am_lay8 : ∀ w ∈ u_ws "LockOrchestra$Tape" am_T8 2, w ∈ am_G := am_ckw_ok (ps := [1038, 1040]) (by decide +kernel)
theorem am_ty9 : ∀ k, k < 2 → parseFieldDescriptor (am_T9 k).2.2.1 = some (am_Y9 k) := by decide +kernel
theorem am_nm9 : ∀ a, a < 2 → ∀ b, b < 2 → a ≠ b → (am_T9 a).2.1 ≠ (am_T9 b).2.1 := by decide +kernel
theorem am_lay9 : ∀ w ∈ u_ws "LockOrchestra$TestReader" am_T9 2, w ∈ am_G := am_ckw_ok (ps := [1083, 1085]) (by decide +kernel)
theorem am_ty10 : ∀ k, k < 6 → parseFieldDescriptor (am_T10 k).2.2.1 = some (am_Y10 k) := by decide +kernel
theorem am_nm10 : ∀ a, a < 6 → ∀ b, b < 6 → a ≠ b → (am_T10 a).2.1 ≠ (am_T10 b).2.1 := by decide +kernel
theorem am_lay10 : ∀ w ∈ u_ws "LockOrchestra$Words" am_T10 6, w ∈ am_G := am_ckw_ok (ps := [1056, 1058, 1060, 1062, 1064, 1066]) (by decide +kernel)
theorem am_ty11 : ∀ k, k < 18 → parseFieldDescriptor (am_T11 k).2.2.1 = some (am_Y11 k) := by decide +kernel
theorem am_nm11 : ∀ a, a < 18 → ∀ b, b < 18 → a ≠ b → (am_T11 a).2.1 ≠ (am_T11 b).2.1 := by decide +kernel
theorem am_lay11 : ∀ w ∈ u_ws "LockOrchestra" am_T11 18, w ∈ am_G := am_ckw_ok (ps := [2045, 2047, 2049, 2051, 2053, 2055, 2057, 2059, 2061, 2063, 2065, 2067, 2069, 2071, 2073, 2075, 2077, 2079]) (by decide +kernel)
theorem am_ty12 : ∀ k, k < 95 → parseFieldDescriptor (am_T12 k).2.2.1 = some (am_Y12 k) := by decide +kernel
theorem am_nm12 : ∀ a, a < 95 → ∀ b, b < 95 → a ≠ b → (am_T12 a).2.1 ≠ (am_T12 b).2.1 := by decide +kernel
theorem am_lay12 : ∀ w ∈ u_ws "LockOrchestraModel" am_T12 95, w ∈ am_G := am_ckw_ok (ps := [6092, 6094, 6096, 6098, 6100, 6102, 6104, 6106, 6108, 6110, 6112, 6114, 6116, 6118, 6120, 6122, 6124, 6126, 6128, 6130, 6132, 6134, 6136, 6138, 6140, 6142, 6144, 6146, 6148, 6150, 6152, 6154, 6156, 6158, 6160, 6162, 6164, 6166, 6168, 6170, 6172, 6174, 6176, 6178, 6180, 6182, 6184, 6186, 6188, 6190, 6192, 6194, 6196, 6198, 6200, 6202, 6204, 6206, 6208, 6210, 6212, 6214, 6216, 6218, 6220, 6222, 6224, 6226, 6228, 6230, 6232, 6234, 6236, 6238, 7000, 7002, 7004, 7006, 7008, 7010, 7012, 7014, 7016, 7018, 7020, 7022, 7024, 7026, 7028, 7030, 7032, 7034, 7036, 7038, 7040]) (by decide +kernel)
theorem am_cl_ty : ∀ (ci : Nat) (r : vw_C) (ty : Nat → FieldType), am_cl[ci]? = some r → am_cy[ci]? = some ty → (∀ k, k < r.2.2 → parseFieldDescriptor (r.2.1 k).2.2.1 = some (ty k)) ∧ (∀ a, a < r.2.2 → ∀ b, b < r.2.2 → a ≠ b → (r.2.1 a).2.1 ≠ (r.2.1 b).2.1) ∧ (∀ w ∈ u_ws r.1 r.2.1 r.2.2, w ∈ am_G) := by
  intro ci r ty h1 h2
  match ci, h1, h2 with
  | 0, h1, h2 => cases h1; cases h2; exact ⟨am_ty0, am_nm0, am_lay0⟩
  | 1, h1, h2 => cases h1; cases h2; exact ⟨am_ty1, am_nm1, am_lay1⟩
  | 2, h1, h2 => cases h1; cases h2; exact ⟨am_ty2, am_nm2, am_lay2⟩
  | 3, h1, h2 => cases h1; cases h2; exact ⟨am_ty3, am_nm3, am_lay3⟩
  | 4, h1, h2 => cases h1; cases h2; exact ⟨am_ty4, am_nm4, am_lay4⟩
  | 5, h1, h2 => cases h1; cases h2; exact ⟨am_ty5, am_nm5, am_lay5⟩
  | 6, h1, h2 => cases h1; cases h2; exact ⟨am_ty6, am_nm6, am_lay6⟩
  | 7, h1, h2 => cases h1; cases h2; exact ⟨am_ty7, am_nm7, am_lay7⟩
  | 8, h1, h2 => cases h1; cases h2; exact ⟨am_ty8, am_nm8, am_lay8⟩
  | 9, h1, h2 => cases h1; cases h2; exact ⟨am_ty9, am_nm9, am_lay9⟩
  | 10, h1, h2 => cases h1; cases h2; exact ⟨am_ty10, am_nm10, am_lay10⟩
  | 11, h1, h2 => cases h1; cases h2; exact ⟨am_ty11, am_nm11, am_lay11⟩
  | 12, h1, h2 => cases h1; cases h2; exact ⟨am_ty12, am_nm12, am_lay12⟩
  | ci + 13, h1, h2 => simp [am_cl] at h1
theorem am_acI : Cond.arrayClass .int ∈ am_G := am_mem (i := 1043) rfl rfl
theorem am_acJ : Cond.arrayClass .long ∈ am_G := am_mem (i := 7044) rfl rfl
theorem am_acC : Cond.arrayClass .char ∈ am_G := am_mem (i := 7043) rfl rfl
end
section
/-! what a state of part 03's machine is on the claim's machine: cell k lies at B + k; a reference from 1000000 on is one of the cells that were there before -/
def am_ad (B : Nat) (ra : Nat → Nat) (k : Nat) : Nat := if k < 1000000 then B + k else ra k
def am_v (B : Nat) (ra : Nat → Nat) (v : Value) : Value := match v with
  | .ref k => .ref (am_ad B ra k)
  | .int x => .int x
  | .long x => .long x
  | .float x => .float x
  | .double x => .double x
  | .null => .null
  | .retAddr x => .retAddr x
theorem am_v_cat (B : Nat) (ra : Nat → Nat) (v : Value) : (am_v B ra v).category = v.category := by cases v <;> rfl
theorem am_v_lo {B : Nat} {ra : Nat → Nat} {k : Nat} (h : k < 1000000) : am_v B ra (.ref k) = .ref (B + k) := by
  show Value.ref (am_ad B ra k) = _
  rw [am_ad, if_pos h]
theorem am_v_hi {B : Nat} {ra : Nat → Nat} {k : Nat} (h : ¬ k < 1000000) : am_v B ra (.ref k) = .ref (ra k) := by
  show Value.ref (am_ad B ra k) = _
  rw [am_ad, if_neg h]
theorem am_cats (B : Nat) (ra : Nat → Nat) (st : List Value) : ((st.map (am_v B ra)).map fun v => v.category) = st.map fun v => v.category := by
  rw [List.map_map]
  exact List.map_congr_left (fun v _ => am_v_cat B ra v)
def am_e (B : Nat) (ra : Nat → Nat) (cA : Nat → ClassId) (E : va_E) : va_E := match E with
  | .inl (t, n, .inl f) => .inl (cA t, n, .inl f)
  | .inl (t, n, .inr (.inl f)) => .inl (cA t, n, .inr (.inl f))
  | .inl (t, n, .inr (.inr (.inl f))) => .inl (cA t, n, .inr (.inr (.inl f)))
  | .inl (t, n, .inr (.inr (.inr (.inl f)))) => .inl (cA t, n, .inr (.inr (.inr (.inl f))))
  | .inl (t, n, .inr (.inr (.inr (.inr f)))) => .inl (cA t, n, .inr (.inr (.inr (.inr (fun i => (f i).map (am_ad B ra))))))
  | .inr (ci, fs) => .inr (ci, fs.map (am_v B ra))
def am_w (B : Nat) (ra : Nat → Nat) (cA : Nat → ClassId) (hp : am_H) : va_W := hp.mapIdx (fun k E => (B + k, am_e B ra cA E))
section AMW
variable {B : Nat} {ra : Nat → Nat} {cA : Nat → ClassId} {hp : am_H}
theorem am_w_get (k : Nat) : (am_w B ra cA hp)[k]? = (hp[k]?).map (fun E => (B + k, am_e B ra cA E)) := by
  unfold am_w
  rw [List.getElem?_mapIdx]
theorem am_w_at {k : Nat} {E : va_E} (h : hp[k]? = some E) : (am_w B ra cA hp)[k]? = some (B + k, am_e B ra cA E) := by
  rw [am_w_get, h]
  rfl
theorem am_w_len : (am_w B ra cA hp).length = hp.length := by simp [am_w]
theorem am_w_set (k : Nat) (E : va_E) : (am_w B ra cA hp).set k (B + k, am_e B ra cA E) = am_w B ra cA (hp.set k E) := by
  apply List.ext_getElem?
  intro i
  rw [am_w_get, List.getElem?_set, List.getElem?_set, am_w_get, am_w_len]
  by_cases h : k = i
  · subst h
    by_cases h2 : k < hp.length
    · simp [h2]
    · simp [h2]
  · simp [h]
theorem am_w_app (l : am_H) : am_w B ra cA (hp ++ l) = am_w B ra cA hp ++ l.mapIdx (fun k E => (B + (hp.length + k), am_e B ra cA E)) := by
  unfold am_w
  rw [List.mapIdx_append]
  congr 1
  congr 1
  funext k E
  rw [Nat.add_comm k]
theorem am_w_push (E : va_E) : am_w B ra cA (hp ++ [E]) = am_w B ra cA hp ++ [(B + hp.length, am_e B ra cA E)] := by
  rw [am_w_app]
  rfl
theorem am_w_D : va_D (fun q => B ≤ q) (am_w B ra cA hp) := by
  refine ⟨fun i j x y hx hy e => ?_, fun k q h => ?_⟩
  · rw [am_w_get] at hx hy
    cases h1 : hp[i]? with
    | none => rw [h1] at hx; cases hx
    | some a =>
      cases h2 : hp[j]? with
      | none => rw [h2] at hy; cases hy
      | some b =>
        rw [h1] at hx
        rw [h2] at hy
        cases hx
        cases hy
        have e2 : B + i = B + j := e
        omega
  · rw [am_w_get] at h
    cases h1 : hp[k]? with
    | none => rw [h1] at h; cases h
    | some a =>
      rw [h1] at h
      cases h
      exact Nat.le_add_right B k
end AMW
def am_q (B : Nat) (ra : Nat → Nat) (ls : am_L) : List (Nat × Value) := ls.map (fun q => (q.1, am_v B ra q.2))
theorem am_ld_mem {i : Nat} {v : Value} : ∀ {ls : am_L}, am_ld i ls = some v → (i, v) ∈ ls
  | [], h => by cases h
  | (j, w) :: t, h => by
    unfold am_ld at h
    by_cases e : j = i
    · rw [if_pos e] at h
      cases h
      rw [e]
      exact List.mem_cons_self
    · rw [if_neg e] at h
      exact List.mem_cons_of_mem _ (am_ld_mem h)
theorem am_ld_at {B : Nat} {ra : Nat → Nat} {i nL : Nat} {v : Value} {ls : am_L} {lsA : Array Slot} (hl : lv_has lsA nL (am_q B ra ls)) (h : am_ld i ls = some v) : lsA[i]? = some (.val (am_v B ra v)) :=
  hl.2.2 (i, am_v B ra v) (List.mem_map.mpr ⟨(i, v), am_ld_mem h, rfl⟩)
theorem am_ld_ix {B : Nat} {ra : Nat → Nat} {i : Nat} {v : Value} {ls : am_L} (h : am_ld i ls = some v) : ∃ k : Nat, (am_q B ra ls)[k]? = some (i, am_v B ra v) :=
  List.mem_iff_getElem?.mp (List.mem_map.mpr ⟨(i, v), am_ld_mem h, rfl⟩)
theorem am_q_s1 (B : Nat) (ra : Nat → Nat) (i : Nat) (v : Value) (ls : am_L) : (i, am_v B ra v) :: (am_q B ra ls).filter (fun q => !(q.1 == i) && !(q.1 + 1 == i && q.2.category == 2)) = am_q B ra (am_s1 i v ls) := by
  unfold am_q am_s1
  rw [List.map_cons, List.filter_map]
  congr 2
  apply List.filter_congr
  intro q _
  simp [am_v_cat]
theorem am_q_s2 (B : Nat) (ra : Nat → Nat) (i : Nat) (v : Value) (ls : am_L) : (i, am_v B ra v) :: (am_q B ra ls).filter (fun q => !(q.1 == i) && (!(q.1 == i + 1) && !(q.1 + 1 == i && q.2.category == 2))) = am_q B ra (am_s2 i v ls) := by
  unfold am_q am_s2
  rw [List.map_cons, List.filter_map]
  congr 2
  apply List.filter_congr
  intro q _
  simp [am_v_cat]
theorem am_q_args (B : Nat) (ra : Nat → Nat) : ∀ (as : List Value) (i : Nat), lv_args i (as.map (am_v B ra)) = am_q B ra (lv_args i as)
  | [], _ => rfl
  | v :: t, i => by
    show (i, am_v B ra v) :: lv_args (if (am_v B ra v).category = 2 then i + 2 else i + 1) (t.map (am_v B ra)) = (i, am_v B ra v) :: am_q B ra (lv_args (if v.category = 2 then i + 2 else i + 1) t)
    rw [am_v_cat, am_q_args B ra t]
theorem am_sl_len (B : Nat) (ra : Nat → Nat) : ∀ (as : List Value), (lg_sl (as.map (am_v B ra))).length = (lg_sl as).length
  | [] => rfl
  | v :: t => by
    have ih := am_sl_len B ra t
    unfold lg_sl at ih ⊢
    simp only [List.map_cons, List.flatMap_cons, List.length_append, am_v_cat, ih]
    congr 1
    by_cases h : v.category = 2
    · simp [h]
    · simp [h]
theorem am_to_ok {pc : Nat} {off : Int} {t : Nat} (h : am_to pc off = some t) : (pc : Int) + off = (t : Int) := by
  unfold am_to at h
  by_cases h0 : 0 ≤ (pc : Int) + off
  · rw [if_pos h0] at h
    cases h
    omega
  · rw [if_neg h0] at h
    cases h
theorem am_in_ok {j : Int32} {n : Nat} (h : am_in j n = true) : vp_in j n := of_decide_eq_true (p := ¬ (j < 0 ∨ n ≤ j.toNatClampNeg)) h
def am_tys (cA : Nat → ClassId) : List (ClassId × FieldType) := [(cA 0, .int), (cA 1, .long), (cA 2, .char), (cA 3, .array .int)]
/-- how many slots a cell has -/
def am_cz (E : va_E) : Nat := match E with
  | .inl (_, n, _) => n
  | .inr (_, fs) => fs.length
def am_sz (hp : am_H) : Nat := (hp.map am_cz).sum
theorem am_sz_app (a b : am_H) : am_sz (a ++ b) = am_sz a + am_sz b := by simp [am_sz]
theorem am_sz_set {E F : va_E} : ∀ {hp : am_H} {k : Nat}, hp[k]? = some E → am_cz F = am_cz E → am_sz (hp.set k F) = am_sz hp
  | [], k, h, _ => by simp at h
  | a :: t, 0, h, e => by
    cases h
    simp [am_sz, e]
  | a :: t, k + 1, h, e => by
    have h1 : t[k]? = some E := by simpa using h
    have := am_sz_set h1 e
    unfold am_sz at this ⊢
    rw [List.set_cons_succ, List.map_cons, List.sum_cons, List.map_cons, List.sum_cons, this]
/-- int[][] is there -/
def am_AO (U : State) : Prop := ∃ (comp c : ClassId) (k : Class), U.vm.findClass (FieldType.array .int).toString = some comp ∧ U.vm.classes[c]? = some k ∧ k.kind = .array comp (.array .int) ∧ U.vm.findClass ("[" ++ (FieldType.array .int).toString) = some c
theorem am_AO.moved {u U : State} (hvm : u.vm.Alike U.vm) (h : am_AO u) : am_AO U := by
  obtain ⟨comp, c, k, h1, h2, h3, h4⟩ := h
  obtain ⟨k', hk', he⟩ := hvm.2.2 _ _ h2
  exact ⟨comp, c, k', by rw [hvm.findClass]; exact h1, hk', by rw [he]; exact h3, by rw [hvm.findClass]; exact h4⟩
/-- what is there beside the cells that the program makes, and stays -/
def am_RO (B : Nat) (ra : Nat → Nat) (E : am_Env) (U : State) : Prop :=
  (∀ (k : Nat) (r : Nat × Nat × (Nat → Int32)), E k = some r → (r.1 = 0 ∧ va_T .int (ra k) r.2.1 (fun j => .int (r.2.2 j)) (fun q => B ≤ q) U U.heap) ∨ (r.1 = 4 ∧ va_T .byte (ra k) r.2.1 (fun j => .int (r.2.2 j)) (fun q => B ≤ q) U U.heap)) ∧
  (∀ i : Nat, i < am_lit.length → va_O "java/lang/String" (ra (1000000 + 2 * i)) (fun q => B ≤ q) U U.heap ∧ va_OF "java/lang/String" "coder" "B" (.int 0) (ra (1000000 + 2 * i)) (fun q => B ≤ q) U U.heap ∧ va_OF "java/lang/String" "value" "[B" (.ref (ra (1000000 + 2 * i + 1))) (ra (1000000 + 2 * i)) (fun q => B ≤ q) U U.heap) ∧
  (∀ (i : Nat) (r : String × Nat × String × List Int32), am_lit[i]? = some r → vk_R r.1 r.2.1 r.2.2.1 (ra (1000000 + 2 * i)) U) ∧
  va_Z "java/lang/String" "COMPACT_STRINGS" "Z" (.int 1) (fun q => B ≤ q) U U.heap ∧ va_Z "LockOrchestra" "MOST_OF_KIND" "[I" (.ref (ra 2000000)) (fun q => B ≤ q) U U.heap ∧
  (∀ q ∈ am_ns0, va_Nw (.methodLinkNest q.1 q.2.1 q.2.2.1 q.2.2.2) U) ∧ va_Nw (.fieldLinkNest "LockOrchestra$Hall" 91 "LockOrchestra" "MOST_OF_KIND" "[I" "LockOrchestra") U ∧ am_AO U
theorem am_RO.on {B : Nat} {ra : Nat → Nat} {E : am_Env} {s U : State} (h : am_RO B ra E s) (hW : s.WarmedH U.vm) (hk : ∀ q : Nat, q < s.heap.size → ¬ B ≤ q → U.heap[q]? = s.heap[q]?) : am_RO B ra E U := by
  obtain ⟨h1, h2, h3, h4, h5, h6, h7, h8⟩ := h
  refine ⟨fun k r hr => ?_, fun i hi => ⟨(va_O.moved hW.alike (h2 i hi).1).kept hk, (va_OF.moved hW.alike (h2 i hi).2.1).kept hk, (va_OF.moved hW.alike (h2 i hi).2.2).kept hk⟩, fun i r hr => (h3 i r hr).warm hW, (va_Z.moved hW.alike h4).kept hk, (va_Z.moved hW.alike h5).kept hk, fun q hq => va_Nw.warmM hW (h6 q hq), va_Nw.warmF hW h7, am_AO.moved hW.alike h8⟩
  rcases h1 k r hr with ⟨e, h⟩ | ⟨e, h⟩
  · exact Or.inl ⟨e, (va_T.moved hW.alike h).kept hk⟩
  · exact Or.inr ⟨e, (va_T.moved hW.alike h).kept hk⟩
/-- a method's frame: what is known at its entry s, and stays -/
def am_Fr (D : va_G) (B : Nat) (ra : Nat → Nat) (cA : Nat → ClassId) (E : am_Env) (n0 d : Nat) (M : am_M) (p : Program) (R : Room) (s : State) (m : MethodId) (args : Array Value) (meth : Method) (c : Code) : Prop :=
  p.tables.exec = Jvm.exec ∧ c.code = am_cc M ∧ c.maxLocals = am_ml M ∧ s.vm.findClass (am_n (am_o M)) = some m.cls ∧ (∀ w ∈ am_G, w.before args s = true) ∧ va_K D am_cl (am_tys cA) s ∧ am_RO B ra E s ∧ meth.sig.returnType = am_rt M ∧ meth.locks = false ∧ (am_ini M = true → meth.name = "<init>") ∧ s.heap.size = B + n0 ∧ d + 1 ≤ R.frames ∧ 40 * d + 60 ≤ R.locals ∧ am_okD M = true ∧ 1 ≤ R.frames ∧ 60 ≤ R.locals
/-- from that state of the machine of part 03 the claim's machine comes to Q; n1, z1: how many cells and slots there are in the end -/
def am_AW (D : va_G) (B : Nat) (ra : Nat → Nat) (cA : Nat → ClassId) (n0 n1 z1 : Nat) (M : am_M) (p : Program) (l : Launch) (e : Env) (R : Room) (s : State) (m : MethodId) (args : Array Value) (below : List Frame) (meth : Method) (c : Code) (Q : State → Prop) (C : am_C) : Prop :=
  ∀ (H : Heap) (locs : List Loc) (lsA : Array Slot) (cells slots : Nat), va_P D am_cl (am_w B ra cA C.2.2.2) H → va_S (fun q => B ≤ q) s.heap H locs → lv_has lsA (am_ml M) (am_q B ra C.2.1) → cells + n0 = C.2.2.2.length → slots + z1 ≤ R.slots + am_sz C.2.2.2 → n1 ≤ R.cells + n0 → W p l e R s m args below meth c H locs cells slots Q (F0 m C.1 lsA (C.2.2.1.map (am_v B ra)))
end
section
/-! an instruction of part 03's machine that is neither call nor return and makes no cell: the claim's machine does it -/
theorem am_fit_ok {B : Nat} {ra : Nat → Nat} {ty : FieldType} {v : Value} (h : am_fit ty v = true) : narrow ty (am_v B ra v) = am_v B ra v ∧ fits ty (am_v B ra v) = true := by
  cases v with
  | ref k => cases ty <;> first | exact ⟨rfl, rfl⟩ | cases h
  | null => cases ty <;> first | exact ⟨rfl, rfl⟩ | cases h
  | int x =>
    simp only [am_fit, Bool.and_eq_true, decide_eq_true_eq] at h
    exact h
  | long x =>
    simp only [am_fit, Bool.and_eq_true, decide_eq_true_eq] at h
    exact h
  | float x => cases h
  | double x => cases h
  | retAddr x => cases h
section AMO
variable {D : va_G} {B : Nat} {ra : Nat → Nat} {cA : Nat → ClassId} {E : am_Env} {n0 n1 z1 d : Nat} {M : am_M} {p : Program} {l : Launch} {e : Env} {R : Room} {s : State} {m : MethodId} {args : Array Value} {below : List Frame} {meth : Method} {c : Code} {Q : State → Prop}

set_option maxHeartbeats 4000000 in
theorem am_o_iconst (k : Int) (F : am_Fr D B ra cA E n0 d M p R s m args meth c) {nn : Nat} {C C1 : am_C} (hdg0 : decode (am_cc M) C.1 = .ok ((Instr.iconst k), nn)) (hn : am_ln (Instr.iconst k) = 0 ∨ nn = am_ln (Instr.iconst k)) (h : am_one E M (Instr.iconst k) C.1 C.2.1 C.2.2.1 C.2.2.2 = some C1) (kk : am_AW D B ra cA n0 n1 z1 M p l e R s m args below meth c Q C1) : am_AW D B ra cA n0 n1 z1 M p l e R s m args below meth c Q C := by
  obtain ⟨pc, ls, st, hp⟩ := C
  intro H locs lsA cells slots hP hS hl hc hs hnn
  obtain ⟨hx, hb, hml, hown, hts, hK, hro, hr, hlk, hini, hB, hR1, hR2, hok, hR3, hR4⟩ := F
  obtain rfl : nn = 1 := hn.resolve_left (by simp [am_ln])
  have hdg : decode (am_cc M) pc = .ok ((Instr.iconst k), 1) := hdg0
  simp only [am_one] at h
  cases h
  refine lv_iconst hx hb hdg rfl ?_
  exact kk H locs lsA cells slots hP hS hl hc hs hnn
set_option maxHeartbeats 4000000 in
theorem am_o_bipush (k : Int) (F : am_Fr D B ra cA E n0 d M p R s m args meth c) {nn : Nat} {C C1 : am_C} (hdg0 : decode (am_cc M) C.1 = .ok ((Instr.bipush k), nn)) (hn : am_ln (Instr.bipush k) = 0 ∨ nn = am_ln (Instr.bipush k)) (h : am_one E M (Instr.bipush k) C.1 C.2.1 C.2.2.1 C.2.2.2 = some C1) (kk : am_AW D B ra cA n0 n1 z1 M p l e R s m args below meth c Q C1) : am_AW D B ra cA n0 n1 z1 M p l e R s m args below meth c Q C := by
  obtain ⟨pc, ls, st, hp⟩ := C
  intro H locs lsA cells slots hP hS hl hc hs hnn
  obtain ⟨hx, hb, hml, hown, hts, hK, hro, hr, hlk, hini, hB, hR1, hR2, hok, hR3, hR4⟩ := F
  obtain rfl : nn = 2 := hn.resolve_left (by simp [am_ln])
  have hdg : decode (am_cc M) pc = .ok ((Instr.bipush k), 2) := hdg0
  simp only [am_one] at h
  cases h
  refine lv_bipush hx hb hdg rfl ?_
  exact kk H locs lsA cells slots hP hS hl hc hs hnn
set_option maxHeartbeats 4000000 in
theorem am_o_sipush (k : Int) (F : am_Fr D B ra cA E n0 d M p R s m args meth c) {nn : Nat} {C C1 : am_C} (hdg0 : decode (am_cc M) C.1 = .ok ((Instr.sipush k), nn)) (hn : am_ln (Instr.sipush k) = 0 ∨ nn = am_ln (Instr.sipush k)) (h : am_one E M (Instr.sipush k) C.1 C.2.1 C.2.2.1 C.2.2.2 = some C1) (kk : am_AW D B ra cA n0 n1 z1 M p l e R s m args below meth c Q C1) : am_AW D B ra cA n0 n1 z1 M p l e R s m args below meth c Q C := by
  obtain ⟨pc, ls, st, hp⟩ := C
  intro H locs lsA cells slots hP hS hl hc hs hnn
  obtain ⟨hx, hb, hml, hown, hts, hK, hro, hr, hlk, hini, hB, hR1, hR2, hok, hR3, hR4⟩ := F
  obtain rfl : nn = 3 := hn.resolve_left (by simp [am_ln])
  have hdg : decode (am_cc M) pc = .ok ((Instr.sipush k), 3) := hdg0
  simp only [am_one] at h
  cases h
  refine lv_sipush hx hb hdg rfl ?_
  exact kk H locs lsA cells slots hP hS hl hc hs hnn
set_option maxHeartbeats 4000000 in
theorem am_o_lconst (k : Fin 2) (F : am_Fr D B ra cA E n0 d M p R s m args meth c) {nn : Nat} {C C1 : am_C} (hdg0 : decode (am_cc M) C.1 = .ok ((Instr.lconst k), nn)) (hn : am_ln (Instr.lconst k) = 0 ∨ nn = am_ln (Instr.lconst k)) (h : am_one E M (Instr.lconst k) C.1 C.2.1 C.2.2.1 C.2.2.2 = some C1) (kk : am_AW D B ra cA n0 n1 z1 M p l e R s m args below meth c Q C1) : am_AW D B ra cA n0 n1 z1 M p l e R s m args below meth c Q C := by
  obtain ⟨pc, ls, st, hp⟩ := C
  intro H locs lsA cells slots hP hS hl hc hs hnn
  obtain ⟨hx, hb, hml, hown, hts, hK, hro, hr, hlk, hini, hB, hR1, hR2, hok, hR3, hR4⟩ := F
  obtain rfl : nn = 1 := hn.resolve_left (by simp [am_ln])
  have hdg : decode (am_cc M) pc = .ok ((Instr.lconst k), 1) := hdg0
  simp only [am_one] at h
  cases h
  refine lv_lconst hx hb hdg rfl ?_
  exact kk H locs lsA cells slots hP hS hl hc hs hnn
set_option maxHeartbeats 4000000 in
theorem am_o_iload_n (k : Fin 4) (F : am_Fr D B ra cA E n0 d M p R s m args meth c) {nn : Nat} {C C1 : am_C} (hdg0 : decode (am_cc M) C.1 = .ok ((Instr.iload_n k), nn)) (hn : am_ln (Instr.iload_n k) = 0 ∨ nn = am_ln (Instr.iload_n k)) (h : am_one E M (Instr.iload_n k) C.1 C.2.1 C.2.2.1 C.2.2.2 = some C1) (kk : am_AW D B ra cA n0 n1 z1 M p l e R s m args below meth c Q C1) : am_AW D B ra cA n0 n1 z1 M p l e R s m args below meth c Q C := by
  obtain ⟨pc, ls, st, hp⟩ := C
  intro H locs lsA cells slots hP hS hl hc hs hnn
  obtain ⟨hx, hb, hml, hown, hts, hK, hro, hr, hlk, hini, hB, hR1, hR2, hok, hR3, hR4⟩ := F
  obtain rfl : nn = 1 := hn.resolve_left (by simp [am_ln])
  have hdg : decode (am_cc M) pc = .ok ((Instr.iload_n k), 1) := hdg0
  simp only [am_one] at h
  split at h
  · next x he =>
    cases h
    refine lv_iload_n hx hb hdg rfl (am_ld_at hl he) ?_
    exact kk H locs lsA cells slots hP hS hl hc hs hnn
  · cases h
set_option maxHeartbeats 4000000 in
theorem am_o_istore_n (k : Fin 4) (F : am_Fr D B ra cA E n0 d M p R s m args meth c) {nn : Nat} {C C1 : am_C} (hdg0 : decode (am_cc M) C.1 = .ok ((Instr.istore_n k), nn)) (hn : am_ln (Instr.istore_n k) = 0 ∨ nn = am_ln (Instr.istore_n k)) (h : am_one E M (Instr.istore_n k) C.1 C.2.1 C.2.2.1 C.2.2.2 = some C1) (kk : am_AW D B ra cA n0 n1 z1 M p l e R s m args below meth c Q C1) : am_AW D B ra cA n0 n1 z1 M p l e R s m args below meth c Q C := by
  obtain ⟨pc, ls, st, hp⟩ := C
  intro H locs lsA cells slots hP hS hl hc hs hnn
  obtain ⟨hx, hb, hml, hown, hts, hK, hro, hr, hlk, hini, hB, hR1, hR2, hok, hR3, hR4⟩ := F
  obtain rfl : nn = 1 := hn.resolve_left (by simp [am_ln])
  have hdg : decode (am_cc M) pc = .ok ((Instr.istore_n k), 1) := hdg0
  simp only [am_one] at h
  split at h
  · next x r =>
    split at h
    · next hk =>
      cases h
      refine lv_istore_n (lv' := _) hx hb hdg rfl hl hk (am_q_s1 B ra _ (.int x) ls) (fun ls' hl' => ?_)
      exact kk H locs ls' cells slots hP hS hl' hc hs hnn
    · cases h
  · cases h
set_option maxHeartbeats 4000000 in
theorem am_o_iload (k : Nat) (F : am_Fr D B ra cA E n0 d M p R s m args meth c) {nn : Nat} {C C1 : am_C} (hdg0 : decode (am_cc M) C.1 = .ok ((Instr.iload k), nn)) (hn : am_ln (Instr.iload k) = 0 ∨ nn = am_ln (Instr.iload k)) (h : am_one E M (Instr.iload k) C.1 C.2.1 C.2.2.1 C.2.2.2 = some C1) (kk : am_AW D B ra cA n0 n1 z1 M p l e R s m args below meth c Q C1) : am_AW D B ra cA n0 n1 z1 M p l e R s m args below meth c Q C := by
  obtain ⟨pc, ls, st, hp⟩ := C
  intro H locs lsA cells slots hP hS hl hc hs hnn
  obtain ⟨hx, hb, hml, hown, hts, hK, hro, hr, hlk, hini, hB, hR1, hR2, hok, hR3, hR4⟩ := F
  obtain rfl : nn = 2 := hn.resolve_left (by simp [am_ln])
  have hdg : decode (am_cc M) pc = .ok ((Instr.iload k), 2) := hdg0
  simp only [am_one] at h
  split at h
  · next x he =>
    cases h
    refine lv_iload hx hb hdg (am_ld_at hl he) ?_
    exact kk H locs lsA cells slots hP hS hl hc hs hnn
  · cases h
set_option maxHeartbeats 4000000 in
theorem am_o_istore (k : Nat) (F : am_Fr D B ra cA E n0 d M p R s m args meth c) {nn : Nat} {C C1 : am_C} (hdg0 : decode (am_cc M) C.1 = .ok ((Instr.istore k), nn)) (hn : am_ln (Instr.istore k) = 0 ∨ nn = am_ln (Instr.istore k)) (h : am_one E M (Instr.istore k) C.1 C.2.1 C.2.2.1 C.2.2.2 = some C1) (kk : am_AW D B ra cA n0 n1 z1 M p l e R s m args below meth c Q C1) : am_AW D B ra cA n0 n1 z1 M p l e R s m args below meth c Q C := by
  obtain ⟨pc, ls, st, hp⟩ := C
  intro H locs lsA cells slots hP hS hl hc hs hnn
  obtain ⟨hx, hb, hml, hown, hts, hK, hro, hr, hlk, hini, hB, hR1, hR2, hok, hR3, hR4⟩ := F
  obtain rfl : nn = 2 := hn.resolve_left (by simp [am_ln])
  have hdg : decode (am_cc M) pc = .ok ((Instr.istore k), 2) := hdg0
  simp only [am_one] at h
  split at h
  · next x r =>
    split at h
    · next hk =>
      cases h
      refine lv_istore (lv' := _) hx hb hdg hl hk (am_q_s1 B ra _ (.int x) ls) (fun ls' hl' => ?_)
      exact kk H locs ls' cells slots hP hS hl' hc hs hnn
    · cases h
  · cases h
set_option maxHeartbeats 4000000 in
theorem am_o_lload_n (k : Fin 4) (F : am_Fr D B ra cA E n0 d M p R s m args meth c) {nn : Nat} {C C1 : am_C} (hdg0 : decode (am_cc M) C.1 = .ok ((Instr.lload_n k), nn)) (hn : am_ln (Instr.lload_n k) = 0 ∨ nn = am_ln (Instr.lload_n k)) (h : am_one E M (Instr.lload_n k) C.1 C.2.1 C.2.2.1 C.2.2.2 = some C1) (kk : am_AW D B ra cA n0 n1 z1 M p l e R s m args below meth c Q C1) : am_AW D B ra cA n0 n1 z1 M p l e R s m args below meth c Q C := by
  obtain ⟨pc, ls, st, hp⟩ := C
  intro H locs lsA cells slots hP hS hl hc hs hnn
  obtain ⟨hx, hb, hml, hown, hts, hK, hro, hr, hlk, hini, hB, hR1, hR2, hok, hR3, hR4⟩ := F
  obtain rfl : nn = 1 := hn.resolve_left (by simp [am_ln])
  have hdg : decode (am_cc M) pc = .ok ((Instr.lload_n k), 1) := hdg0
  simp only [am_one] at h
  split at h
  · next x he =>
    cases h
    refine lv_lload_n hx hb hdg rfl (am_ld_at hl he) ?_
    exact kk H locs lsA cells slots hP hS hl hc hs hnn
  · cases h
set_option maxHeartbeats 4000000 in
theorem am_o_lstore_n (k : Fin 4) (F : am_Fr D B ra cA E n0 d M p R s m args meth c) {nn : Nat} {C C1 : am_C} (hdg0 : decode (am_cc M) C.1 = .ok ((Instr.lstore_n k), nn)) (hn : am_ln (Instr.lstore_n k) = 0 ∨ nn = am_ln (Instr.lstore_n k)) (h : am_one E M (Instr.lstore_n k) C.1 C.2.1 C.2.2.1 C.2.2.2 = some C1) (kk : am_AW D B ra cA n0 n1 z1 M p l e R s m args below meth c Q C1) : am_AW D B ra cA n0 n1 z1 M p l e R s m args below meth c Q C := by
  obtain ⟨pc, ls, st, hp⟩ := C
  intro H locs lsA cells slots hP hS hl hc hs hnn
  obtain ⟨hx, hb, hml, hown, hts, hK, hro, hr, hlk, hini, hB, hR1, hR2, hok, hR3, hR4⟩ := F
  obtain rfl : nn = 1 := hn.resolve_left (by simp [am_ln])
  have hdg : decode (am_cc M) pc = .ok ((Instr.lstore_n k), 1) := hdg0
  simp only [am_one] at h
  split at h
  · next x r =>
    split at h
    · next hk =>
      cases h
      refine lv_lstore_n (lv' := _) hx hb hdg rfl hl hk (am_q_s2 B ra _ (.long x) ls) (fun ls' hl' => ?_)
      exact kk H locs ls' cells slots hP hS hl' hc hs hnn
    · cases h
  · cases h
set_option maxHeartbeats 4000000 in
theorem am_o_lload (k : Nat) (F : am_Fr D B ra cA E n0 d M p R s m args meth c) {nn : Nat} {C C1 : am_C} (hdg0 : decode (am_cc M) C.1 = .ok ((Instr.lload k), nn)) (hn : am_ln (Instr.lload k) = 0 ∨ nn = am_ln (Instr.lload k)) (h : am_one E M (Instr.lload k) C.1 C.2.1 C.2.2.1 C.2.2.2 = some C1) (kk : am_AW D B ra cA n0 n1 z1 M p l e R s m args below meth c Q C1) : am_AW D B ra cA n0 n1 z1 M p l e R s m args below meth c Q C := by
  obtain ⟨pc, ls, st, hp⟩ := C
  intro H locs lsA cells slots hP hS hl hc hs hnn
  obtain ⟨hx, hb, hml, hown, hts, hK, hro, hr, hlk, hini, hB, hR1, hR2, hok, hR3, hR4⟩ := F
  obtain rfl : nn = 2 := hn.resolve_left (by simp [am_ln])
  have hdg : decode (am_cc M) pc = .ok ((Instr.lload k), 2) := hdg0
  simp only [am_one] at h
  split at h
  · next x he =>
    cases h
    refine lv_lload hx hb hdg (am_ld_at hl he) ?_
    exact kk H locs lsA cells slots hP hS hl hc hs hnn
  · cases h
set_option maxHeartbeats 4000000 in
theorem am_o_lstore (k : Nat) (F : am_Fr D B ra cA E n0 d M p R s m args meth c) {nn : Nat} {C C1 : am_C} (hdg0 : decode (am_cc M) C.1 = .ok ((Instr.lstore k), nn)) (hn : am_ln (Instr.lstore k) = 0 ∨ nn = am_ln (Instr.lstore k)) (h : am_one E M (Instr.lstore k) C.1 C.2.1 C.2.2.1 C.2.2.2 = some C1) (kk : am_AW D B ra cA n0 n1 z1 M p l e R s m args below meth c Q C1) : am_AW D B ra cA n0 n1 z1 M p l e R s m args below meth c Q C := by
  obtain ⟨pc, ls, st, hp⟩ := C
  intro H locs lsA cells slots hP hS hl hc hs hnn
  obtain ⟨hx, hb, hml, hown, hts, hK, hro, hr, hlk, hini, hB, hR1, hR2, hok, hR3, hR4⟩ := F
  obtain rfl : nn = 2 := hn.resolve_left (by simp [am_ln])
  have hdg : decode (am_cc M) pc = .ok ((Instr.lstore k), 2) := hdg0
  simp only [am_one] at h
  split at h
  · next x r =>
    split at h
    · next hk =>
      cases h
      refine lv_lstore (lv' := _) hx hb hdg hl hk (am_q_s2 B ra _ (.long x) ls) (fun ls' hl' => ?_)
      exact kk H locs ls' cells slots hP hS hl' hc hs hnn
    · cases h
  · cases h
set_option maxHeartbeats 4000000 in
theorem am_o_aload_n (k : Fin 4) (F : am_Fr D B ra cA E n0 d M p R s m args meth c) {nn : Nat} {C C1 : am_C} (hdg0 : decode (am_cc M) C.1 = .ok ((Instr.aload_n k), nn)) (hn : am_ln (Instr.aload_n k) = 0 ∨ nn = am_ln (Instr.aload_n k)) (h : am_one E M (Instr.aload_n k) C.1 C.2.1 C.2.2.1 C.2.2.2 = some C1) (kk : am_AW D B ra cA n0 n1 z1 M p l e R s m args below meth c Q C1) : am_AW D B ra cA n0 n1 z1 M p l e R s m args below meth c Q C := by
  obtain ⟨pc, ls, st, hp⟩ := C
  intro H locs lsA cells slots hP hS hl hc hs hnn
  obtain ⟨hx, hb, hml, hown, hts, hK, hro, hr, hlk, hini, hB, hR1, hR2, hok, hR3, hR4⟩ := F
  obtain rfl : nn = 1 := hn.resolve_left (by simp [am_ln])
  have hdg : decode (am_cc M) pc = .ok ((Instr.aload_n k), 1) := hdg0
  simp only [am_one] at h
  split at h
  · next x he =>
    cases h
    refine lv_aload_n hx hb hdg rfl (am_ld_at hl he) ?_
    exact kk H locs lsA cells slots hP hS hl hc hs hnn
  · cases h
set_option maxHeartbeats 4000000 in
theorem am_o_astore_n (k : Fin 4) (F : am_Fr D B ra cA E n0 d M p R s m args meth c) {nn : Nat} {C C1 : am_C} (hdg0 : decode (am_cc M) C.1 = .ok ((Instr.astore_n k), nn)) (hn : am_ln (Instr.astore_n k) = 0 ∨ nn = am_ln (Instr.astore_n k)) (h : am_one E M (Instr.astore_n k) C.1 C.2.1 C.2.2.1 C.2.2.2 = some C1) (kk : am_AW D B ra cA n0 n1 z1 M p l e R s m args below meth c Q C1) : am_AW D B ra cA n0 n1 z1 M p l e R s m args below meth c Q C := by
  obtain ⟨pc, ls, st, hp⟩ := C
  intro H locs lsA cells slots hP hS hl hc hs hnn
  obtain ⟨hx, hb, hml, hown, hts, hK, hro, hr, hlk, hini, hB, hR1, hR2, hok, hR3, hR4⟩ := F
  obtain rfl : nn = 1 := hn.resolve_left (by simp [am_ln])
  have hdg : decode (am_cc M) pc = .ok ((Instr.astore_n k), 1) := hdg0
  simp only [am_one] at h
  split at h
  · next x r =>
    split at h
    · next hk =>
      cases h
      refine lv_astore_n (lv' := _) hx hb hdg rfl hl hk (am_q_s1 B ra _ (.ref x) ls) (fun ls' hl' => ?_)
      exact kk H locs ls' cells slots hP hS hl' hc hs hnn
    · cases h
  · cases h
set_option maxHeartbeats 4000000 in
theorem am_o_aload (k : Nat) (F : am_Fr D B ra cA E n0 d M p R s m args meth c) {nn : Nat} {C C1 : am_C} (hdg0 : decode (am_cc M) C.1 = .ok ((Instr.aload k), nn)) (hn : am_ln (Instr.aload k) = 0 ∨ nn = am_ln (Instr.aload k)) (h : am_one E M (Instr.aload k) C.1 C.2.1 C.2.2.1 C.2.2.2 = some C1) (kk : am_AW D B ra cA n0 n1 z1 M p l e R s m args below meth c Q C1) : am_AW D B ra cA n0 n1 z1 M p l e R s m args below meth c Q C := by
  obtain ⟨pc, ls, st, hp⟩ := C
  intro H locs lsA cells slots hP hS hl hc hs hnn
  obtain ⟨hx, hb, hml, hown, hts, hK, hro, hr, hlk, hini, hB, hR1, hR2, hok, hR3, hR4⟩ := F
  obtain rfl : nn = 2 := hn.resolve_left (by simp [am_ln])
  have hdg : decode (am_cc M) pc = .ok ((Instr.aload k), 2) := hdg0
  simp only [am_one] at h
  split at h
  · next x he =>
    cases h
    refine lv_aload hx hb hdg (am_ld_at hl he) ?_
    exact kk H locs lsA cells slots hP hS hl hc hs hnn
  · cases h
set_option maxHeartbeats 4000000 in
theorem am_o_astore (k : Nat) (F : am_Fr D B ra cA E n0 d M p R s m args meth c) {nn : Nat} {C C1 : am_C} (hdg0 : decode (am_cc M) C.1 = .ok ((Instr.astore k), nn)) (hn : am_ln (Instr.astore k) = 0 ∨ nn = am_ln (Instr.astore k)) (h : am_one E M (Instr.astore k) C.1 C.2.1 C.2.2.1 C.2.2.2 = some C1) (kk : am_AW D B ra cA n0 n1 z1 M p l e R s m args below meth c Q C1) : am_AW D B ra cA n0 n1 z1 M p l e R s m args below meth c Q C := by
  obtain ⟨pc, ls, st, hp⟩ := C
  intro H locs lsA cells slots hP hS hl hc hs hnn
  obtain ⟨hx, hb, hml, hown, hts, hK, hro, hr, hlk, hini, hB, hR1, hR2, hok, hR3, hR4⟩ := F
  obtain rfl : nn = 2 := hn.resolve_left (by simp [am_ln])
  have hdg : decode (am_cc M) pc = .ok ((Instr.astore k), 2) := hdg0
  simp only [am_one] at h
  split at h
  · next x r =>
    split at h
    · next hk =>
      cases h
      refine lv_astore (lv' := _) hx hb hdg hl hk (am_q_s1 B ra _ (.ref x) ls) (fun ls' hl' => ?_)
      exact kk H locs ls' cells slots hP hS hl' hc hs hnn
    · cases h
  · cases h
set_option maxHeartbeats 4000000 in
theorem am_o_iinc (k : Nat) (n : Int) (F : am_Fr D B ra cA E n0 d M p R s m args meth c) {nn : Nat} {C C1 : am_C} (hdg0 : decode (am_cc M) C.1 = .ok ((Instr.iinc k n), nn)) (hn : am_ln (Instr.iinc k n) = 0 ∨ nn = am_ln (Instr.iinc k n)) (h : am_one E M (Instr.iinc k n) C.1 C.2.1 C.2.2.1 C.2.2.2 = some C1) (kk : am_AW D B ra cA n0 n1 z1 M p l e R s m args below meth c Q C1) : am_AW D B ra cA n0 n1 z1 M p l e R s m args below meth c Q C := by
  obtain ⟨pc, ls, st, hp⟩ := C
  intro H locs lsA cells slots hP hS hl hc hs hnn
  obtain ⟨hx, hb, hml, hown, hts, hK, hro, hr, hlk, hini, hB, hR1, hR2, hok, hR3, hR4⟩ := F
  obtain rfl : nn = 3 := hn.resolve_left (by simp [am_ln])
  have hdg : decode (am_cc M) pc = .ok ((Instr.iinc k n), 3) := hdg0
  simp only [am_one] at h
  split at h
  · next x he =>
    split at h
    · next hk =>
      cases h
      obtain ⟨j, hj⟩ := am_ld_ix (B := B) (ra := ra) he
      refine lv_iinc (v := x + Int32.ofInt n) hx hb hdg hl hj rfl hk (am_q_s1 B ra k (.int (x + Int32.ofInt n)) ls) (fun ls' hl' => ?_)
      exact kk H locs ls' cells slots hP hS hl' hc hs hnn
    · cases h
  · cases h
set_option maxHeartbeats 4000000 in
theorem am_o_iadd  (F : am_Fr D B ra cA E n0 d M p R s m args meth c) {nn : Nat} {C C1 : am_C} (hdg0 : decode (am_cc M) C.1 = .ok ((Instr.iadd), nn)) (hn : am_ln (Instr.iadd) = 0 ∨ nn = am_ln (Instr.iadd)) (h : am_one E M (Instr.iadd) C.1 C.2.1 C.2.2.1 C.2.2.2 = some C1) (kk : am_AW D B ra cA n0 n1 z1 M p l e R s m args below meth c Q C1) : am_AW D B ra cA n0 n1 z1 M p l e R s m args below meth c Q C := by
  obtain ⟨pc, ls, st, hp⟩ := C
  intro H locs lsA cells slots hP hS hl hc hs hnn
  obtain ⟨hx, hb, hml, hown, hts, hK, hro, hr, hlk, hini, hB, hR1, hR2, hok, hR3, hR4⟩ := F
  obtain rfl : nn = 1 := hn.resolve_left (by simp [am_ln])
  have hdg : decode (am_cc M) pc = .ok ((Instr.iadd), 1) := hdg0
  simp only [am_one] at h
  split at h
  · next y x r =>
    simp only [am_i2] at h
    cases h
    refine lv_iadd hx hb hdg ?_
    exact kk H locs lsA cells slots hP hS hl hc hs hnn
  · cases h
set_option maxHeartbeats 4000000 in
theorem am_o_isub  (F : am_Fr D B ra cA E n0 d M p R s m args meth c) {nn : Nat} {C C1 : am_C} (hdg0 : decode (am_cc M) C.1 = .ok ((Instr.isub), nn)) (hn : am_ln (Instr.isub) = 0 ∨ nn = am_ln (Instr.isub)) (h : am_one E M (Instr.isub) C.1 C.2.1 C.2.2.1 C.2.2.2 = some C1) (kk : am_AW D B ra cA n0 n1 z1 M p l e R s m args below meth c Q C1) : am_AW D B ra cA n0 n1 z1 M p l e R s m args below meth c Q C := by
  obtain ⟨pc, ls, st, hp⟩ := C
  intro H locs lsA cells slots hP hS hl hc hs hnn
  obtain ⟨hx, hb, hml, hown, hts, hK, hro, hr, hlk, hini, hB, hR1, hR2, hok, hR3, hR4⟩ := F
  obtain rfl : nn = 1 := hn.resolve_left (by simp [am_ln])
  have hdg : decode (am_cc M) pc = .ok ((Instr.isub), 1) := hdg0
  simp only [am_one] at h
  split at h
  · next y x r =>
    simp only [am_i2] at h
    cases h
    refine lv_isub hx hb hdg ?_
    exact kk H locs lsA cells slots hP hS hl hc hs hnn
  · cases h
set_option maxHeartbeats 4000000 in
theorem am_o_imul  (F : am_Fr D B ra cA E n0 d M p R s m args meth c) {nn : Nat} {C C1 : am_C} (hdg0 : decode (am_cc M) C.1 = .ok ((Instr.imul), nn)) (hn : am_ln (Instr.imul) = 0 ∨ nn = am_ln (Instr.imul)) (h : am_one E M (Instr.imul) C.1 C.2.1 C.2.2.1 C.2.2.2 = some C1) (kk : am_AW D B ra cA n0 n1 z1 M p l e R s m args below meth c Q C1) : am_AW D B ra cA n0 n1 z1 M p l e R s m args below meth c Q C := by
  obtain ⟨pc, ls, st, hp⟩ := C
  intro H locs lsA cells slots hP hS hl hc hs hnn
  obtain ⟨hx, hb, hml, hown, hts, hK, hro, hr, hlk, hini, hB, hR1, hR2, hok, hR3, hR4⟩ := F
  obtain rfl : nn = 1 := hn.resolve_left (by simp [am_ln])
  have hdg : decode (am_cc M) pc = .ok ((Instr.imul), 1) := hdg0
  simp only [am_one] at h
  split at h
  · next y x r =>
    simp only [am_i2] at h
    cases h
    refine lv_imul hx hb hdg ?_
    exact kk H locs lsA cells slots hP hS hl hc hs hnn
  · cases h
set_option maxHeartbeats 4000000 in
theorem am_o_iand  (F : am_Fr D B ra cA E n0 d M p R s m args meth c) {nn : Nat} {C C1 : am_C} (hdg0 : decode (am_cc M) C.1 = .ok ((Instr.iand), nn)) (hn : am_ln (Instr.iand) = 0 ∨ nn = am_ln (Instr.iand)) (h : am_one E M (Instr.iand) C.1 C.2.1 C.2.2.1 C.2.2.2 = some C1) (kk : am_AW D B ra cA n0 n1 z1 M p l e R s m args below meth c Q C1) : am_AW D B ra cA n0 n1 z1 M p l e R s m args below meth c Q C := by
  obtain ⟨pc, ls, st, hp⟩ := C
  intro H locs lsA cells slots hP hS hl hc hs hnn
  obtain ⟨hx, hb, hml, hown, hts, hK, hro, hr, hlk, hini, hB, hR1, hR2, hok, hR3, hR4⟩ := F
  obtain rfl : nn = 1 := hn.resolve_left (by simp [am_ln])
  have hdg : decode (am_cc M) pc = .ok ((Instr.iand), 1) := hdg0
  simp only [am_one] at h
  split at h
  · next y x r =>
    simp only [am_i2] at h
    cases h
    refine lv_iand hx hb hdg ?_
    exact kk H locs lsA cells slots hP hS hl hc hs hnn
  · cases h
set_option maxHeartbeats 4000000 in
theorem am_o_ior  (F : am_Fr D B ra cA E n0 d M p R s m args meth c) {nn : Nat} {C C1 : am_C} (hdg0 : decode (am_cc M) C.1 = .ok ((Instr.ior), nn)) (hn : am_ln (Instr.ior) = 0 ∨ nn = am_ln (Instr.ior)) (h : am_one E M (Instr.ior) C.1 C.2.1 C.2.2.1 C.2.2.2 = some C1) (kk : am_AW D B ra cA n0 n1 z1 M p l e R s m args below meth c Q C1) : am_AW D B ra cA n0 n1 z1 M p l e R s m args below meth c Q C := by
  obtain ⟨pc, ls, st, hp⟩ := C
  intro H locs lsA cells slots hP hS hl hc hs hnn
  obtain ⟨hx, hb, hml, hown, hts, hK, hro, hr, hlk, hini, hB, hR1, hR2, hok, hR3, hR4⟩ := F
  obtain rfl : nn = 1 := hn.resolve_left (by simp [am_ln])
  have hdg : decode (am_cc M) pc = .ok ((Instr.ior), 1) := hdg0
  simp only [am_one] at h
  split at h
  · next y x r =>
    simp only [am_i2] at h
    cases h
    refine lv_ior hx hb hdg ?_
    exact kk H locs lsA cells slots hP hS hl hc hs hnn
  · cases h
set_option maxHeartbeats 4000000 in
theorem am_o_ixor  (F : am_Fr D B ra cA E n0 d M p R s m args meth c) {nn : Nat} {C C1 : am_C} (hdg0 : decode (am_cc M) C.1 = .ok ((Instr.ixor), nn)) (hn : am_ln (Instr.ixor) = 0 ∨ nn = am_ln (Instr.ixor)) (h : am_one E M (Instr.ixor) C.1 C.2.1 C.2.2.1 C.2.2.2 = some C1) (kk : am_AW D B ra cA n0 n1 z1 M p l e R s m args below meth c Q C1) : am_AW D B ra cA n0 n1 z1 M p l e R s m args below meth c Q C := by
  obtain ⟨pc, ls, st, hp⟩ := C
  intro H locs lsA cells slots hP hS hl hc hs hnn
  obtain ⟨hx, hb, hml, hown, hts, hK, hro, hr, hlk, hini, hB, hR1, hR2, hok, hR3, hR4⟩ := F
  obtain rfl : nn = 1 := hn.resolve_left (by simp [am_ln])
  have hdg : decode (am_cc M) pc = .ok ((Instr.ixor), 1) := hdg0
  simp only [am_one] at h
  split at h
  · next y x r =>
    simp only [am_i2] at h
    cases h
    refine lv_ixor hx hb hdg ?_
    exact kk H locs lsA cells slots hP hS hl hc hs hnn
  · cases h
set_option maxHeartbeats 4000000 in
theorem am_o_ishl  (F : am_Fr D B ra cA E n0 d M p R s m args meth c) {nn : Nat} {C C1 : am_C} (hdg0 : decode (am_cc M) C.1 = .ok ((Instr.ishl), nn)) (hn : am_ln (Instr.ishl) = 0 ∨ nn = am_ln (Instr.ishl)) (h : am_one E M (Instr.ishl) C.1 C.2.1 C.2.2.1 C.2.2.2 = some C1) (kk : am_AW D B ra cA n0 n1 z1 M p l e R s m args below meth c Q C1) : am_AW D B ra cA n0 n1 z1 M p l e R s m args below meth c Q C := by
  obtain ⟨pc, ls, st, hp⟩ := C
  intro H locs lsA cells slots hP hS hl hc hs hnn
  obtain ⟨hx, hb, hml, hown, hts, hK, hro, hr, hlk, hini, hB, hR1, hR2, hok, hR3, hR4⟩ := F
  obtain rfl : nn = 1 := hn.resolve_left (by simp [am_ln])
  have hdg : decode (am_cc M) pc = .ok ((Instr.ishl), 1) := hdg0
  simp only [am_one] at h
  split at h
  · next y x r =>
    simp only [am_i2] at h
    cases h
    refine lv_ishl hx hb hdg ?_
    exact kk H locs lsA cells slots hP hS hl hc hs hnn
  · cases h
set_option maxHeartbeats 4000000 in
theorem am_o_ishr  (F : am_Fr D B ra cA E n0 d M p R s m args meth c) {nn : Nat} {C C1 : am_C} (hdg0 : decode (am_cc M) C.1 = .ok ((Instr.ishr), nn)) (hn : am_ln (Instr.ishr) = 0 ∨ nn = am_ln (Instr.ishr)) (h : am_one E M (Instr.ishr) C.1 C.2.1 C.2.2.1 C.2.2.2 = some C1) (kk : am_AW D B ra cA n0 n1 z1 M p l e R s m args below meth c Q C1) : am_AW D B ra cA n0 n1 z1 M p l e R s m args below meth c Q C := by
  obtain ⟨pc, ls, st, hp⟩ := C
  intro H locs lsA cells slots hP hS hl hc hs hnn
  obtain ⟨hx, hb, hml, hown, hts, hK, hro, hr, hlk, hini, hB, hR1, hR2, hok, hR3, hR4⟩ := F
  obtain rfl : nn = 1 := hn.resolve_left (by simp [am_ln])
  have hdg : decode (am_cc M) pc = .ok ((Instr.ishr), 1) := hdg0
  simp only [am_one] at h
  split at h
  · next y x r =>
    simp only [am_i2] at h
    cases h
    refine lv_ishr hx hb hdg ?_
    exact kk H locs lsA cells slots hP hS hl hc hs hnn
  · cases h
set_option maxHeartbeats 4000000 in
theorem am_o_iushr  (F : am_Fr D B ra cA E n0 d M p R s m args meth c) {nn : Nat} {C C1 : am_C} (hdg0 : decode (am_cc M) C.1 = .ok ((Instr.iushr), nn)) (hn : am_ln (Instr.iushr) = 0 ∨ nn = am_ln (Instr.iushr)) (h : am_one E M (Instr.iushr) C.1 C.2.1 C.2.2.1 C.2.2.2 = some C1) (kk : am_AW D B ra cA n0 n1 z1 M p l e R s m args below meth c Q C1) : am_AW D B ra cA n0 n1 z1 M p l e R s m args below meth c Q C := by
  obtain ⟨pc, ls, st, hp⟩ := C
  intro H locs lsA cells slots hP hS hl hc hs hnn
  obtain ⟨hx, hb, hml, hown, hts, hK, hro, hr, hlk, hini, hB, hR1, hR2, hok, hR3, hR4⟩ := F
  obtain rfl : nn = 1 := hn.resolve_left (by simp [am_ln])
  have hdg : decode (am_cc M) pc = .ok ((Instr.iushr), 1) := hdg0
  simp only [am_one] at h
  split at h
  · next y x r =>
    simp only [am_i2] at h
    cases h
    refine lv_iushr hx hb hdg rfl ?_
    exact kk H locs lsA cells slots hP hS hl hc hs hnn
  · cases h
set_option maxHeartbeats 4000000 in
theorem am_o_idiv  (F : am_Fr D B ra cA E n0 d M p R s m args meth c) {nn : Nat} {C C1 : am_C} (hdg0 : decode (am_cc M) C.1 = .ok ((Instr.idiv), nn)) (hn : am_ln (Instr.idiv) = 0 ∨ nn = am_ln (Instr.idiv)) (h : am_one E M (Instr.idiv) C.1 C.2.1 C.2.2.1 C.2.2.2 = some C1) (kk : am_AW D B ra cA n0 n1 z1 M p l e R s m args below meth c Q C1) : am_AW D B ra cA n0 n1 z1 M p l e R s m args below meth c Q C := by
  obtain ⟨pc, ls, st, hp⟩ := C
  intro H locs lsA cells slots hP hS hl hc hs hnn
  obtain ⟨hx, hb, hml, hown, hts, hK, hro, hr, hlk, hini, hB, hR1, hR2, hok, hR3, hR4⟩ := F
  obtain rfl : nn = 1 := hn.resolve_left (by simp [am_ln])
  have hdg : decode (am_cc M) pc = .ok ((Instr.idiv), 1) := hdg0
  simp only [am_one] at h
  split at h
  · next y x r =>
    simp only [am_i2] at h
    by_cases hy : y = 0
    · rw [if_pos hy] at h
      cases h
    · rw [if_neg hy] at h
      cases h
      refine lv_idiv hx hb hdg hy ?_
      exact kk H locs lsA cells slots hP hS hl hc hs hnn
  · cases h
set_option maxHeartbeats 4000000 in
theorem am_o_irem  (F : am_Fr D B ra cA E n0 d M p R s m args meth c) {nn : Nat} {C C1 : am_C} (hdg0 : decode (am_cc M) C.1 = .ok ((Instr.irem), nn)) (hn : am_ln (Instr.irem) = 0 ∨ nn = am_ln (Instr.irem)) (h : am_one E M (Instr.irem) C.1 C.2.1 C.2.2.1 C.2.2.2 = some C1) (kk : am_AW D B ra cA n0 n1 z1 M p l e R s m args below meth c Q C1) : am_AW D B ra cA n0 n1 z1 M p l e R s m args below meth c Q C := by
  obtain ⟨pc, ls, st, hp⟩ := C
  intro H locs lsA cells slots hP hS hl hc hs hnn
  obtain ⟨hx, hb, hml, hown, hts, hK, hro, hr, hlk, hini, hB, hR1, hR2, hok, hR3, hR4⟩ := F
  obtain rfl : nn = 1 := hn.resolve_left (by simp [am_ln])
  have hdg : decode (am_cc M) pc = .ok ((Instr.irem), 1) := hdg0
  simp only [am_one] at h
  split at h
  · next y x r =>
    simp only [am_i2] at h
    by_cases hy : y = 0
    · rw [if_pos hy] at h
      cases h
    · rw [if_neg hy] at h
      cases h
      refine lv_irem hx hb hdg hy ?_
      exact kk H locs lsA cells slots hP hS hl hc hs hnn
  · cases h
set_option maxHeartbeats 4000000 in
theorem am_o_ladd  (F : am_Fr D B ra cA E n0 d M p R s m args meth c) {nn : Nat} {C C1 : am_C} (hdg0 : decode (am_cc M) C.1 = .ok ((Instr.ladd), nn)) (hn : am_ln (Instr.ladd) = 0 ∨ nn = am_ln (Instr.ladd)) (h : am_one E M (Instr.ladd) C.1 C.2.1 C.2.2.1 C.2.2.2 = some C1) (kk : am_AW D B ra cA n0 n1 z1 M p l e R s m args below meth c Q C1) : am_AW D B ra cA n0 n1 z1 M p l e R s m args below meth c Q C := by
  obtain ⟨pc, ls, st, hp⟩ := C
  intro H locs lsA cells slots hP hS hl hc hs hnn
  obtain ⟨hx, hb, hml, hown, hts, hK, hro, hr, hlk, hini, hB, hR1, hR2, hok, hR3, hR4⟩ := F
  obtain rfl : nn = 1 := hn.resolve_left (by simp [am_ln])
  have hdg : decode (am_cc M) pc = .ok ((Instr.ladd), 1) := hdg0
  simp only [am_one] at h
  split at h
  · next y x r =>
    simp only [am_l2] at h
    cases h
    refine lv_ladd hx hb hdg ?_
    exact kk H locs lsA cells slots hP hS hl hc hs hnn
  · cases h
set_option maxHeartbeats 4000000 in
theorem am_o_lsub  (F : am_Fr D B ra cA E n0 d M p R s m args meth c) {nn : Nat} {C C1 : am_C} (hdg0 : decode (am_cc M) C.1 = .ok ((Instr.lsub), nn)) (hn : am_ln (Instr.lsub) = 0 ∨ nn = am_ln (Instr.lsub)) (h : am_one E M (Instr.lsub) C.1 C.2.1 C.2.2.1 C.2.2.2 = some C1) (kk : am_AW D B ra cA n0 n1 z1 M p l e R s m args below meth c Q C1) : am_AW D B ra cA n0 n1 z1 M p l e R s m args below meth c Q C := by
  obtain ⟨pc, ls, st, hp⟩ := C
  intro H locs lsA cells slots hP hS hl hc hs hnn
  obtain ⟨hx, hb, hml, hown, hts, hK, hro, hr, hlk, hini, hB, hR1, hR2, hok, hR3, hR4⟩ := F
  obtain rfl : nn = 1 := hn.resolve_left (by simp [am_ln])
  have hdg : decode (am_cc M) pc = .ok ((Instr.lsub), 1) := hdg0
  simp only [am_one] at h
  split at h
  · next y x r =>
    simp only [am_l2] at h
    cases h
    refine lv_lsub hx hb hdg ?_
    exact kk H locs lsA cells slots hP hS hl hc hs hnn
  · cases h
set_option maxHeartbeats 4000000 in
theorem am_o_lmul  (F : am_Fr D B ra cA E n0 d M p R s m args meth c) {nn : Nat} {C C1 : am_C} (hdg0 : decode (am_cc M) C.1 = .ok ((Instr.lmul), nn)) (hn : am_ln (Instr.lmul) = 0 ∨ nn = am_ln (Instr.lmul)) (h : am_one E M (Instr.lmul) C.1 C.2.1 C.2.2.1 C.2.2.2 = some C1) (kk : am_AW D B ra cA n0 n1 z1 M p l e R s m args below meth c Q C1) : am_AW D B ra cA n0 n1 z1 M p l e R s m args below meth c Q C := by
  obtain ⟨pc, ls, st, hp⟩ := C
  intro H locs lsA cells slots hP hS hl hc hs hnn
  obtain ⟨hx, hb, hml, hown, hts, hK, hro, hr, hlk, hini, hB, hR1, hR2, hok, hR3, hR4⟩ := F
  obtain rfl : nn = 1 := hn.resolve_left (by simp [am_ln])
  have hdg : decode (am_cc M) pc = .ok ((Instr.lmul), 1) := hdg0
  simp only [am_one] at h
  split at h
  · next y x r =>
    simp only [am_l2] at h
    cases h
    refine lv_lmul hx hb hdg ?_
    exact kk H locs lsA cells slots hP hS hl hc hs hnn
  · cases h
set_option maxHeartbeats 4000000 in
theorem am_o_land  (F : am_Fr D B ra cA E n0 d M p R s m args meth c) {nn : Nat} {C C1 : am_C} (hdg0 : decode (am_cc M) C.1 = .ok ((Instr.land), nn)) (hn : am_ln (Instr.land) = 0 ∨ nn = am_ln (Instr.land)) (h : am_one E M (Instr.land) C.1 C.2.1 C.2.2.1 C.2.2.2 = some C1) (kk : am_AW D B ra cA n0 n1 z1 M p l e R s m args below meth c Q C1) : am_AW D B ra cA n0 n1 z1 M p l e R s m args below meth c Q C := by
  obtain ⟨pc, ls, st, hp⟩ := C
  intro H locs lsA cells slots hP hS hl hc hs hnn
  obtain ⟨hx, hb, hml, hown, hts, hK, hro, hr, hlk, hini, hB, hR1, hR2, hok, hR3, hR4⟩ := F
  obtain rfl : nn = 1 := hn.resolve_left (by simp [am_ln])
  have hdg : decode (am_cc M) pc = .ok ((Instr.land), 1) := hdg0
  simp only [am_one] at h
  split at h
  · next y x r =>
    simp only [am_l2] at h
    cases h
    refine lv_land hx hb hdg ?_
    exact kk H locs lsA cells slots hP hS hl hc hs hnn
  · cases h
set_option maxHeartbeats 4000000 in
theorem am_o_lor  (F : am_Fr D B ra cA E n0 d M p R s m args meth c) {nn : Nat} {C C1 : am_C} (hdg0 : decode (am_cc M) C.1 = .ok ((Instr.lor), nn)) (hn : am_ln (Instr.lor) = 0 ∨ nn = am_ln (Instr.lor)) (h : am_one E M (Instr.lor) C.1 C.2.1 C.2.2.1 C.2.2.2 = some C1) (kk : am_AW D B ra cA n0 n1 z1 M p l e R s m args below meth c Q C1) : am_AW D B ra cA n0 n1 z1 M p l e R s m args below meth c Q C := by
  obtain ⟨pc, ls, st, hp⟩ := C
  intro H locs lsA cells slots hP hS hl hc hs hnn
  obtain ⟨hx, hb, hml, hown, hts, hK, hro, hr, hlk, hini, hB, hR1, hR2, hok, hR3, hR4⟩ := F
  obtain rfl : nn = 1 := hn.resolve_left (by simp [am_ln])
  have hdg : decode (am_cc M) pc = .ok ((Instr.lor), 1) := hdg0
  simp only [am_one] at h
  split at h
  · next y x r =>
    simp only [am_l2] at h
    cases h
    refine lv_lor hx hb hdg ?_
    exact kk H locs lsA cells slots hP hS hl hc hs hnn
  · cases h
set_option maxHeartbeats 4000000 in
theorem am_o_ldiv  (F : am_Fr D B ra cA E n0 d M p R s m args meth c) {nn : Nat} {C C1 : am_C} (hdg0 : decode (am_cc M) C.1 = .ok ((Instr.ldiv), nn)) (hn : am_ln (Instr.ldiv) = 0 ∨ nn = am_ln (Instr.ldiv)) (h : am_one E M (Instr.ldiv) C.1 C.2.1 C.2.2.1 C.2.2.2 = some C1) (kk : am_AW D B ra cA n0 n1 z1 M p l e R s m args below meth c Q C1) : am_AW D B ra cA n0 n1 z1 M p l e R s m args below meth c Q C := by
  obtain ⟨pc, ls, st, hp⟩ := C
  intro H locs lsA cells slots hP hS hl hc hs hnn
  obtain ⟨hx, hb, hml, hown, hts, hK, hro, hr, hlk, hini, hB, hR1, hR2, hok, hR3, hR4⟩ := F
  obtain rfl : nn = 1 := hn.resolve_left (by simp [am_ln])
  have hdg : decode (am_cc M) pc = .ok ((Instr.ldiv), 1) := hdg0
  simp only [am_one] at h
  split at h
  · next y x r =>
    simp only [am_l2] at h
    by_cases hy : y = 0
    · rw [if_pos hy] at h
      cases h
    · rw [if_neg hy] at h
      cases h
      refine lv_ldiv hx hb hdg hy ?_
      exact kk H locs lsA cells slots hP hS hl hc hs hnn
  · cases h
set_option maxHeartbeats 4000000 in
theorem am_o_lrem  (F : am_Fr D B ra cA E n0 d M p R s m args meth c) {nn : Nat} {C C1 : am_C} (hdg0 : decode (am_cc M) C.1 = .ok ((Instr.lrem), nn)) (hn : am_ln (Instr.lrem) = 0 ∨ nn = am_ln (Instr.lrem)) (h : am_one E M (Instr.lrem) C.1 C.2.1 C.2.2.1 C.2.2.2 = some C1) (kk : am_AW D B ra cA n0 n1 z1 M p l e R s m args below meth c Q C1) : am_AW D B ra cA n0 n1 z1 M p l e R s m args below meth c Q C := by
  obtain ⟨pc, ls, st, hp⟩ := C
  intro H locs lsA cells slots hP hS hl hc hs hnn
  obtain ⟨hx, hb, hml, hown, hts, hK, hro, hr, hlk, hini, hB, hR1, hR2, hok, hR3, hR4⟩ := F
  obtain rfl : nn = 1 := hn.resolve_left (by simp [am_ln])
  have hdg : decode (am_cc M) pc = .ok ((Instr.lrem), 1) := hdg0
  simp only [am_one] at h
  split at h
  · next y x r =>
    simp only [am_l2] at h
    by_cases hy : y = 0
    · rw [if_pos hy] at h
      cases h
    · rw [if_neg hy] at h
      cases h
      refine lv_lrem hx hb hdg hy ?_
      exact kk H locs lsA cells slots hP hS hl hc hs hnn
  · cases h
set_option maxHeartbeats 4000000 in
theorem am_o_lshl  (F : am_Fr D B ra cA E n0 d M p R s m args meth c) {nn : Nat} {C C1 : am_C} (hdg0 : decode (am_cc M) C.1 = .ok ((Instr.lshl), nn)) (hn : am_ln (Instr.lshl) = 0 ∨ nn = am_ln (Instr.lshl)) (h : am_one E M (Instr.lshl) C.1 C.2.1 C.2.2.1 C.2.2.2 = some C1) (kk : am_AW D B ra cA n0 n1 z1 M p l e R s m args below meth c Q C1) : am_AW D B ra cA n0 n1 z1 M p l e R s m args below meth c Q C := by
  obtain ⟨pc, ls, st, hp⟩ := C
  intro H locs lsA cells slots hP hS hl hc hs hnn
  obtain ⟨hx, hb, hml, hown, hts, hK, hro, hr, hlk, hini, hB, hR1, hR2, hok, hR3, hR4⟩ := F
  obtain rfl : nn = 1 := hn.resolve_left (by simp [am_ln])
  have hdg : decode (am_cc M) pc = .ok ((Instr.lshl), 1) := hdg0
  simp only [am_one] at h
  split at h
  · cases h
    refine lv_lshl hx hb hdg rfl ?_
    exact kk H locs lsA cells slots hP hS hl hc hs hnn
  · cases h
set_option maxHeartbeats 4000000 in
theorem am_o_lshr  (F : am_Fr D B ra cA E n0 d M p R s m args meth c) {nn : Nat} {C C1 : am_C} (hdg0 : decode (am_cc M) C.1 = .ok ((Instr.lshr), nn)) (hn : am_ln (Instr.lshr) = 0 ∨ nn = am_ln (Instr.lshr)) (h : am_one E M (Instr.lshr) C.1 C.2.1 C.2.2.1 C.2.2.2 = some C1) (kk : am_AW D B ra cA n0 n1 z1 M p l e R s m args below meth c Q C1) : am_AW D B ra cA n0 n1 z1 M p l e R s m args below meth c Q C := by
  obtain ⟨pc, ls, st, hp⟩ := C
  intro H locs lsA cells slots hP hS hl hc hs hnn
  obtain ⟨hx, hb, hml, hown, hts, hK, hro, hr, hlk, hini, hB, hR1, hR2, hok, hR3, hR4⟩ := F
  obtain rfl : nn = 1 := hn.resolve_left (by simp [am_ln])
  have hdg : decode (am_cc M) pc = .ok ((Instr.lshr), 1) := hdg0
  simp only [am_one] at h
  split at h
  · cases h
    refine lv_lshr hx hb hdg rfl ?_
    exact kk H locs lsA cells slots hP hS hl hc hs hnn
  · cases h
set_option maxHeartbeats 4000000 in
theorem am_o_lcmp  (F : am_Fr D B ra cA E n0 d M p R s m args meth c) {nn : Nat} {C C1 : am_C} (hdg0 : decode (am_cc M) C.1 = .ok ((Instr.lcmp), nn)) (hn : am_ln (Instr.lcmp) = 0 ∨ nn = am_ln (Instr.lcmp)) (h : am_one E M (Instr.lcmp) C.1 C.2.1 C.2.2.1 C.2.2.2 = some C1) (kk : am_AW D B ra cA n0 n1 z1 M p l e R s m args below meth c Q C1) : am_AW D B ra cA n0 n1 z1 M p l e R s m args below meth c Q C := by
  obtain ⟨pc, ls, st, hp⟩ := C
  intro H locs lsA cells slots hP hS hl hc hs hnn
  obtain ⟨hx, hb, hml, hown, hts, hK, hro, hr, hlk, hini, hB, hR1, hR2, hok, hR3, hR4⟩ := F
  obtain rfl : nn = 1 := hn.resolve_left (by simp [am_ln])
  have hdg : decode (am_cc M) pc = .ok ((Instr.lcmp), 1) := hdg0
  simp only [am_one] at h
  split at h
  · cases h
    refine W.lcmp hx hb hdg ?_
    exact kk H locs lsA cells slots hP hS hl hc hs hnn
  · cases h
set_option maxHeartbeats 4000000 in
theorem am_o_i2l  (F : am_Fr D B ra cA E n0 d M p R s m args meth c) {nn : Nat} {C C1 : am_C} (hdg0 : decode (am_cc M) C.1 = .ok ((Instr.i2l), nn)) (hn : am_ln (Instr.i2l) = 0 ∨ nn = am_ln (Instr.i2l)) (h : am_one E M (Instr.i2l) C.1 C.2.1 C.2.2.1 C.2.2.2 = some C1) (kk : am_AW D B ra cA n0 n1 z1 M p l e R s m args below meth c Q C1) : am_AW D B ra cA n0 n1 z1 M p l e R s m args below meth c Q C := by
  obtain ⟨pc, ls, st, hp⟩ := C
  intro H locs lsA cells slots hP hS hl hc hs hnn
  obtain ⟨hx, hb, hml, hown, hts, hK, hro, hr, hlk, hini, hB, hR1, hR2, hok, hR3, hR4⟩ := F
  obtain rfl : nn = 1 := hn.resolve_left (by simp [am_ln])
  have hdg : decode (am_cc M) pc = .ok ((Instr.i2l), 1) := hdg0
  simp only [am_one] at h
  split at h
  · cases h
    refine lv_i2l hx hb hdg rfl ?_
    exact kk H locs lsA cells slots hP hS hl hc hs hnn
  · cases h
set_option maxHeartbeats 4000000 in
theorem am_o_l2i  (F : am_Fr D B ra cA E n0 d M p R s m args meth c) {nn : Nat} {C C1 : am_C} (hdg0 : decode (am_cc M) C.1 = .ok ((Instr.l2i), nn)) (hn : am_ln (Instr.l2i) = 0 ∨ nn = am_ln (Instr.l2i)) (h : am_one E M (Instr.l2i) C.1 C.2.1 C.2.2.1 C.2.2.2 = some C1) (kk : am_AW D B ra cA n0 n1 z1 M p l e R s m args below meth c Q C1) : am_AW D B ra cA n0 n1 z1 M p l e R s m args below meth c Q C := by
  obtain ⟨pc, ls, st, hp⟩ := C
  intro H locs lsA cells slots hP hS hl hc hs hnn
  obtain ⟨hx, hb, hml, hown, hts, hK, hro, hr, hlk, hini, hB, hR1, hR2, hok, hR3, hR4⟩ := F
  obtain rfl : nn = 1 := hn.resolve_left (by simp [am_ln])
  have hdg : decode (am_cc M) pc = .ok ((Instr.l2i), 1) := hdg0
  simp only [am_one] at h
  split at h
  · cases h
    refine lv_l2i hx hb hdg rfl ?_
    exact kk H locs lsA cells slots hP hS hl hc hs hnn
  · cases h
set_option maxHeartbeats 4000000 in
theorem am_o_i2c  (F : am_Fr D B ra cA E n0 d M p R s m args meth c) {nn : Nat} {C C1 : am_C} (hdg0 : decode (am_cc M) C.1 = .ok ((Instr.i2c), nn)) (hn : am_ln (Instr.i2c) = 0 ∨ nn = am_ln (Instr.i2c)) (h : am_one E M (Instr.i2c) C.1 C.2.1 C.2.2.1 C.2.2.2 = some C1) (kk : am_AW D B ra cA n0 n1 z1 M p l e R s m args below meth c Q C1) : am_AW D B ra cA n0 n1 z1 M p l e R s m args below meth c Q C := by
  obtain ⟨pc, ls, st, hp⟩ := C
  intro H locs lsA cells slots hP hS hl hc hs hnn
  obtain ⟨hx, hb, hml, hown, hts, hK, hro, hr, hlk, hini, hB, hR1, hR2, hok, hR3, hR4⟩ := F
  obtain rfl : nn = 1 := hn.resolve_left (by simp [am_ln])
  have hdg : decode (am_cc M) pc = .ok ((Instr.i2c), 1) := hdg0
  simp only [am_one] at h
  split at h
  · cases h
    refine lv_i2c hx hb hdg rfl ?_
    exact kk H locs lsA cells slots hP hS hl hc hs hnn
  · cases h
set_option maxHeartbeats 4000000 in
theorem am_o_dup  (F : am_Fr D B ra cA E n0 d M p R s m args meth c) {nn : Nat} {C C1 : am_C} (hdg0 : decode (am_cc M) C.1 = .ok ((Instr.dup), nn)) (hn : am_ln (Instr.dup) = 0 ∨ nn = am_ln (Instr.dup)) (h : am_one E M (Instr.dup) C.1 C.2.1 C.2.2.1 C.2.2.2 = some C1) (kk : am_AW D B ra cA n0 n1 z1 M p l e R s m args below meth c Q C1) : am_AW D B ra cA n0 n1 z1 M p l e R s m args below meth c Q C := by
  obtain ⟨pc, ls, st, hp⟩ := C
  intro H locs lsA cells slots hP hS hl hc hs hnn
  obtain ⟨hx, hb, hml, hown, hts, hK, hro, hr, hlk, hini, hB, hR1, hR2, hok, hR3, hR4⟩ := F
  obtain rfl : nn = 1 := hn.resolve_left (by simp [am_ln])
  have hdg : decode (am_cc M) pc = .ok ((Instr.dup), 1) := hdg0
  simp only [am_one] at h
  split at h
  · next v r =>
    split at h
    · next hv =>
      cases h
      refine lv_dup hx hb hdg ((am_v_cat B ra v).trans hv) ?_
      exact kk H locs lsA cells slots hP hS hl hc hs hnn
    · cases h
  · cases h
set_option maxHeartbeats 4000000 in
theorem am_o_pop  (F : am_Fr D B ra cA E n0 d M p R s m args meth c) {nn : Nat} {C C1 : am_C} (hdg0 : decode (am_cc M) C.1 = .ok ((Instr.pop), nn)) (hn : am_ln (Instr.pop) = 0 ∨ nn = am_ln (Instr.pop)) (h : am_one E M (Instr.pop) C.1 C.2.1 C.2.2.1 C.2.2.2 = some C1) (kk : am_AW D B ra cA n0 n1 z1 M p l e R s m args below meth c Q C1) : am_AW D B ra cA n0 n1 z1 M p l e R s m args below meth c Q C := by
  obtain ⟨pc, ls, st, hp⟩ := C
  intro H locs lsA cells slots hP hS hl hc hs hnn
  obtain ⟨hx, hb, hml, hown, hts, hK, hro, hr, hlk, hini, hB, hR1, hR2, hok, hR3, hR4⟩ := F
  obtain rfl : nn = 1 := hn.resolve_left (by simp [am_ln])
  have hdg : decode (am_cc M) pc = .ok ((Instr.pop), 1) := hdg0
  simp only [am_one] at h
  split at h
  · next v r =>
    split at h
    · next hv =>
      cases h
      refine lv_pop hx hb hdg ((am_v_cat B ra v).trans hv) ?_
      exact kk H locs lsA cells slots hP hS hl hc hs hnn
    · cases h
  · cases h
set_option maxHeartbeats 4000000 in
theorem am_o_dup2  (F : am_Fr D B ra cA E n0 d M p R s m args meth c) {nn : Nat} {C C1 : am_C} (hdg0 : decode (am_cc M) C.1 = .ok ((Instr.dup2), nn)) (hn : am_ln (Instr.dup2) = 0 ∨ nn = am_ln (Instr.dup2)) (h : am_one E M (Instr.dup2) C.1 C.2.1 C.2.2.1 C.2.2.2 = some C1) (kk : am_AW D B ra cA n0 n1 z1 M p l e R s m args below meth c Q C1) : am_AW D B ra cA n0 n1 z1 M p l e R s m args below meth c Q C := by
  obtain ⟨pc, ls, st, hp⟩ := C
  intro H locs lsA cells slots hP hS hl hc hs hnn
  obtain ⟨hx, hb, hml, hown, hts, hK, hro, hr, hlk, hini, hB, hR1, hR2, hok, hR3, hR4⟩ := F
  obtain rfl : nn = 1 := hn.resolve_left (by simp [am_ln])
  have hdg : decode (am_cc M) pc = .ok ((Instr.dup2), 1) := hdg0
  simp only [am_one] at h
  split at h
  · next v w r =>
    split at h
    · next hv =>
      cases h
      refine lv_dup2_11 hx hb hdg ((am_v_cat B ra v).trans hv.1) ((am_v_cat B ra w).trans hv.2) ?_
      exact kk H locs lsA cells slots hP hS hl hc hs hnn
    · split at h
      · next hv =>
        cases h
        refine lv_dup2_2 hx hb hdg ((am_v_cat B ra v).trans hv) ?_
        exact kk H locs lsA cells slots hP hS hl hc hs hnn
      · cases h
  · next v =>
    split at h
    · next hv =>
      cases h
      refine lv_dup2_2 hx hb hdg ((am_v_cat B ra v).trans hv) ?_
      exact kk H locs lsA cells slots hP hS hl hc hs hnn
    · cases h
  · cases h
set_option maxHeartbeats 4000000 in
theorem am_o_ifCond (cd : ClassFile.Cond) (off : Int) (F : am_Fr D B ra cA E n0 d M p R s m args meth c) {nn : Nat} {C C1 : am_C} (hdg0 : decode (am_cc M) C.1 = .ok ((Instr.ifCond cd off), nn)) (hn : am_ln (Instr.ifCond cd off) = 0 ∨ nn = am_ln (Instr.ifCond cd off)) (h : am_one E M (Instr.ifCond cd off) C.1 C.2.1 C.2.2.1 C.2.2.2 = some C1) (kk : am_AW D B ra cA n0 n1 z1 M p l e R s m args below meth c Q C1) : am_AW D B ra cA n0 n1 z1 M p l e R s m args below meth c Q C := by
  obtain ⟨pc, ls, st, hp⟩ := C
  intro H locs lsA cells slots hP hS hl hc hs hnn
  obtain ⟨hx, hb, hml, hown, hts, hK, hro, hr, hlk, hini, hB, hR1, hR2, hok, hR3, hR4⟩ := F
  obtain rfl : nn = 3 := hn.resolve_left (by simp [am_ln])
  have hdg : decode (am_cc M) pc = .ok ((Instr.ifCond cd off), 3) := hdg0
  simp only [am_one] at h
  split at h
  · next x r t ht =>
    cases h
    cases cd with
    | eq =>
      refine lv_if_eq hx hb hdg (am_to_ok ht) (fun q => ?_) (fun q => ?_)
      · have hq : am_cc2 .eq x 0 = true := decide_eq_true q
        have kk2 := kk H locs lsA cells slots hP hS hl hc hs hnn
        rw [if_pos hq] at kk2
        exact kk2
      · have hq : ¬ am_cc2 .eq x 0 = true := fun z => q (of_decide_eq_true z)
        have kk2 := kk H locs lsA cells slots hP hS hl hc hs hnn
        rw [if_neg hq] at kk2
        exact kk2
    | ne =>
      refine lv_if_ne hx hb hdg (am_to_ok ht) (fun q => ?_) (fun q => ?_)
      · have hq : am_cc2 .ne x 0 = true := decide_eq_true q
        have kk2 := kk H locs lsA cells slots hP hS hl hc hs hnn
        rw [if_pos hq] at kk2
        exact kk2
      · have hq : ¬ am_cc2 .ne x 0 = true := fun z => (of_decide_eq_true z) q
        have kk2 := kk H locs lsA cells slots hP hS hl hc hs hnn
        rw [if_neg hq] at kk2
        exact kk2
    | lt =>
      refine lv_if_lt hx hb hdg (am_to_ok ht) (fun q => ?_) (fun q => ?_)
      · have hq : am_cc2 .lt x 0 = true := decide_eq_true q
        have kk2 := kk H locs lsA cells slots hP hS hl hc hs hnn
        rw [if_pos hq] at kk2
        exact kk2
      · have hq : ¬ am_cc2 .lt x 0 = true := fun z => q (of_decide_eq_true z)
        have kk2 := kk H locs lsA cells slots hP hS hl hc hs hnn
        rw [if_neg hq] at kk2
        exact kk2
    | ge =>
      refine lv_if_ge hx hb hdg (am_to_ok ht) (fun q => ?_) (fun q => ?_)
      · have hq : am_cc2 .ge x 0 = true := decide_eq_true q
        have kk2 := kk H locs lsA cells slots hP hS hl hc hs hnn
        rw [if_pos hq] at kk2
        exact kk2
      · have hq : ¬ am_cc2 .ge x 0 = true := fun z => q (of_decide_eq_true z)
        have kk2 := kk H locs lsA cells slots hP hS hl hc hs hnn
        rw [if_neg hq] at kk2
        exact kk2
    | gt =>
      refine lv_if_gt hx hb hdg (am_to_ok ht) (fun q => ?_) (fun q => ?_)
      · have hq : am_cc2 .gt x 0 = true := decide_eq_true q
        have kk2 := kk H locs lsA cells slots hP hS hl hc hs hnn
        rw [if_pos hq] at kk2
        exact kk2
      · have hq : ¬ am_cc2 .gt x 0 = true := fun z => q (of_decide_eq_true z)
        have kk2 := kk H locs lsA cells slots hP hS hl hc hs hnn
        rw [if_neg hq] at kk2
        exact kk2
    | le =>
      refine lv_if_le hx hb hdg (am_to_ok ht) (fun q => ?_) (fun q => ?_)
      · have hq : am_cc2 .le x 0 = true := decide_eq_true q
        have kk2 := kk H locs lsA cells slots hP hS hl hc hs hnn
        rw [if_pos hq] at kk2
        exact kk2
      · have hq : ¬ am_cc2 .le x 0 = true := fun z => q (of_decide_eq_true z)
        have kk2 := kk H locs lsA cells slots hP hS hl hc hs hnn
        rw [if_neg hq] at kk2
        exact kk2
  · cases h
set_option maxHeartbeats 4000000 in
theorem am_o_if_icmp (cd : ClassFile.Cond) (off : Int) (F : am_Fr D B ra cA E n0 d M p R s m args meth c) {nn : Nat} {C C1 : am_C} (hdg0 : decode (am_cc M) C.1 = .ok ((Instr.if_icmp cd off), nn)) (hn : am_ln (Instr.if_icmp cd off) = 0 ∨ nn = am_ln (Instr.if_icmp cd off)) (h : am_one E M (Instr.if_icmp cd off) C.1 C.2.1 C.2.2.1 C.2.2.2 = some C1) (kk : am_AW D B ra cA n0 n1 z1 M p l e R s m args below meth c Q C1) : am_AW D B ra cA n0 n1 z1 M p l e R s m args below meth c Q C := by
  obtain ⟨pc, ls, st, hp⟩ := C
  intro H locs lsA cells slots hP hS hl hc hs hnn
  obtain ⟨hx, hb, hml, hown, hts, hK, hro, hr, hlk, hini, hB, hR1, hR2, hok, hR3, hR4⟩ := F
  obtain rfl : nn = 3 := hn.resolve_left (by simp [am_ln])
  have hdg : decode (am_cc M) pc = .ok ((Instr.if_icmp cd off), 3) := hdg0
  simp only [am_one] at h
  split at h
  · next y x r t ht =>
    cases h
    cases cd with
    | eq =>
      refine lv_icmp_eq hx hb hdg (am_to_ok ht) (fun q => ?_) (fun q => ?_)
      · have hq : am_cc2 .eq x y = true := decide_eq_true q
        have kk2 := kk H locs lsA cells slots hP hS hl hc hs hnn
        rw [if_pos hq] at kk2
        exact kk2
      · have hq : ¬ am_cc2 .eq x y = true := fun z => q (of_decide_eq_true z)
        have kk2 := kk H locs lsA cells slots hP hS hl hc hs hnn
        rw [if_neg hq] at kk2
        exact kk2
    | ne =>
      refine lv_icmp_ne hx hb hdg (am_to_ok ht) (fun q => ?_) (fun q => ?_)
      · have hq : am_cc2 .ne x y = true := decide_eq_true q
        have kk2 := kk H locs lsA cells slots hP hS hl hc hs hnn
        rw [if_pos hq] at kk2
        exact kk2
      · have hq : ¬ am_cc2 .ne x y = true := fun z => (of_decide_eq_true z) q
        have kk2 := kk H locs lsA cells slots hP hS hl hc hs hnn
        rw [if_neg hq] at kk2
        exact kk2
    | lt =>
      refine lv_icmp_lt hx hb hdg (am_to_ok ht) (fun q => ?_) (fun q => ?_)
      · have hq : am_cc2 .lt x y = true := decide_eq_true q
        have kk2 := kk H locs lsA cells slots hP hS hl hc hs hnn
        rw [if_pos hq] at kk2
        exact kk2
      · have hq : ¬ am_cc2 .lt x y = true := fun z => q (of_decide_eq_true z)
        have kk2 := kk H locs lsA cells slots hP hS hl hc hs hnn
        rw [if_neg hq] at kk2
        exact kk2
    | ge =>
      refine lv_icmp_ge hx hb hdg (am_to_ok ht) (fun q => ?_) (fun q => ?_)
      · have hq : am_cc2 .ge x y = true := decide_eq_true q
        have kk2 := kk H locs lsA cells slots hP hS hl hc hs hnn
        rw [if_pos hq] at kk2
        exact kk2
      · have hq : ¬ am_cc2 .ge x y = true := fun z => q (of_decide_eq_true z)
        have kk2 := kk H locs lsA cells slots hP hS hl hc hs hnn
        rw [if_neg hq] at kk2
        exact kk2
    | gt =>
      refine lv_icmp_gt hx hb hdg (am_to_ok ht) (fun q => ?_) (fun q => ?_)
      · have hq : am_cc2 .gt x y = true := decide_eq_true q
        have kk2 := kk H locs lsA cells slots hP hS hl hc hs hnn
        rw [if_pos hq] at kk2
        exact kk2
      · have hq : ¬ am_cc2 .gt x y = true := fun z => q (of_decide_eq_true z)
        have kk2 := kk H locs lsA cells slots hP hS hl hc hs hnn
        rw [if_neg hq] at kk2
        exact kk2
    | le =>
      refine lv_icmp_le hx hb hdg (am_to_ok ht) (fun q => ?_) (fun q => ?_)
      · have hq : am_cc2 .le x y = true := decide_eq_true q
        have kk2 := kk H locs lsA cells slots hP hS hl hc hs hnn
        rw [if_pos hq] at kk2
        exact kk2
      · have hq : ¬ am_cc2 .le x y = true := fun z => q (of_decide_eq_true z)
        have kk2 := kk H locs lsA cells slots hP hS hl hc hs hnn
        rw [if_neg hq] at kk2
        exact kk2
  · cases h
set_option maxHeartbeats 4000000 in
theorem am_o_goto (off : Int) (F : am_Fr D B ra cA E n0 d M p R s m args meth c) {nn : Nat} {C C1 : am_C} (hdg0 : decode (am_cc M) C.1 = .ok ((Instr.goto off), nn)) (hn : am_ln (Instr.goto off) = 0 ∨ nn = am_ln (Instr.goto off)) (h : am_one E M (Instr.goto off) C.1 C.2.1 C.2.2.1 C.2.2.2 = some C1) (kk : am_AW D B ra cA n0 n1 z1 M p l e R s m args below meth c Q C1) : am_AW D B ra cA n0 n1 z1 M p l e R s m args below meth c Q C := by
  obtain ⟨pc, ls, st, hp⟩ := C
  intro H locs lsA cells slots hP hS hl hc hs hnn
  obtain ⟨hx, hb, hml, hown, hts, hK, hro, hr, hlk, hini, hB, hR1, hR2, hok, hR3, hR4⟩ := F
  obtain rfl : nn = 3 := hn.resolve_left (by simp [am_ln])
  have hdg : decode (am_cc M) pc = .ok ((Instr.goto off), 3) := hdg0
  simp only [am_one] at h
  split at h
  · next t ht =>
    cases h
    refine lv_goto hx hb hdg (am_to_ok ht) ?_
    exact kk H locs lsA cells slots hP hS hl hc hs hnn
  · cases h
set_option maxHeartbeats 4000000 in
theorem am_o_tableswitch (dflt lo hi : Int) (offs : Array Int) (F : am_Fr D B ra cA E n0 d M p R s m args meth c) {nn : Nat} {C C1 : am_C} (hdg0 : decode (am_cc M) C.1 = .ok ((Instr.tableswitch dflt lo hi offs), nn)) (hn : am_ln (Instr.tableswitch dflt lo hi offs) = 0 ∨ nn = am_ln (Instr.tableswitch dflt lo hi offs)) (h : am_one E M (Instr.tableswitch dflt lo hi offs) C.1 C.2.1 C.2.2.1 C.2.2.2 = some C1) (kk : am_AW D B ra cA n0 n1 z1 M p l e R s m args below meth c Q C1) : am_AW D B ra cA n0 n1 z1 M p l e R s m args below meth c Q C := by
  obtain ⟨pc, ls, st, hp⟩ := C
  intro H locs lsA cells slots hP hS hl hc hs hnn
  obtain ⟨hx, hb, hml, hown, hts, hK, hro, hr, hlk, hini, hB, hR1, hR2, hok, hR3, hR4⟩ := F
  have hdg : decode (am_cc M) pc = .ok ((Instr.tableswitch dflt lo hi offs), nn) := hdg0
  simp only [am_one] at h
  split at h
  · next x r =>
    split at h
    · next ho =>
      split at h
      · next t ht =>
        cases h
        refine lv_tableOut hx hb hdg ho (am_to_ok ht) ?_
        exact kk H locs lsA cells slots hP hS hl hc hs hnn
      · cases h
    · next ho =>
      split at h
      · next off hoff =>
        split at h
        · next t ht =>
          cases h
          refine lv_tableIn hx hb hdg (fun z => ho (Or.inl z)) (fun z => ho (Or.inr z)) hoff (am_to_ok ht) ?_
          exact kk H locs lsA cells slots hP hS hl hc hs hnn
        · cases h
      · cases h
  · cases h
set_option maxHeartbeats 4000000 in
theorem am_o_lookupswitch (dflt : Int) (ps : Array (Int × Int)) (F : am_Fr D B ra cA E n0 d M p R s m args meth c) {nn : Nat} {C C1 : am_C} (hdg0 : decode (am_cc M) C.1 = .ok ((Instr.lookupswitch dflt ps), nn)) (hn : am_ln (Instr.lookupswitch dflt ps) = 0 ∨ nn = am_ln (Instr.lookupswitch dflt ps)) (h : am_one E M (Instr.lookupswitch dflt ps) C.1 C.2.1 C.2.2.1 C.2.2.2 = some C1) (kk : am_AW D B ra cA n0 n1 z1 M p l e R s m args below meth c Q C1) : am_AW D B ra cA n0 n1 z1 M p l e R s m args below meth c Q C := by
  obtain ⟨pc, ls, st, hp⟩ := C
  intro H locs lsA cells slots hP hS hl hc hs hnn
  obtain ⟨hx, hb, hml, hown, hts, hK, hro, hr, hlk, hini, hB, hR1, hR2, hok, hR3, hR4⟩ := F
  have hdg : decode (am_cc M) pc = .ok ((Instr.lookupswitch dflt ps), nn) := hdg0
  simp only [am_one] at h
  split at h
  · next x r =>
    split at h
    · next ho =>
      split at h
      · next t ht =>
        cases h
        refine lv_lookup hx hb hdg ho rfl (am_to_ok ht) ?_
        exact kk H locs lsA cells slots hP hS hl hc hs hnn
      · cases h
    · cases h
  · cases h
end AMO
end
section
/-! the instructions of part 03's machine that read and write cells -/
theorem am_fl {o x ci k : Nat} (h : am_pl o x = some (0, ci, k)) : ∃ (r : vw_C) (ty : Nat → FieldType), am_cl[ci]? = some r ∧ am_cy[ci]? = some ty ∧ k < r.2.2 ∧ Cond.fieldLink (am_n o) x (r.2.1 k).1 (r.2.1 k).2.1 (r.2.1 k).2.2.1 ∈ am_G := by
  obtain ⟨h1, h2⟩ := am_pl_ok h
  simp only [am_sd] at h2
  simp only [am_ws] at h1
  cases hr : am_cl[ci]? with
  | none => rw [hr] at h2; cases h2
  | some r =>
    cases ht : am_cy[ci]? with
    | none => rw [hr, ht] at h2; cases h2
    | some ty =>
      rw [hr, ht] at h2
      rw [hr] at h1
      exact ⟨r, ty, rfl, rfl, of_decide_eq_true h2, h1 _ List.mem_cons_self⟩
theorem am_half {a : Nat} (h : 1000000 ≤ a ∧ (a - 1000000) % 2 = 0 ∧ (a - 1000000) / 2 < am_lit.length) : ∃ i, i < am_lit.length ∧ a = 1000000 + 2 * i := ⟨(a - 1000000) / 2, h.2.2, by omega⟩
section AMP
variable {D : va_G} {B : Nat} {ra : Nat → Nat} {cA : Nat → ClassId} {E : am_Env} {n0 n1 z1 d : Nat} {M : am_M} {p : Program} {l : Launch} {e : Env} {R : Room} {s : State} {m : MethodId} {args : Array Value} {below : List Frame} {meth : Method} {c : Code} {Q : State → Prop}

set_option maxHeartbeats 4000000 in
theorem am_o_getfield (x : Nat) (F : am_Fr D B ra cA E n0 d M p R s m args meth c) {nn : Nat} {C C1 : am_C} (hdg0 : decode (am_cc M) C.1 = .ok ((Instr.getfield x), nn)) (hn : am_ln (Instr.getfield x) = 0 ∨ nn = am_ln (Instr.getfield x)) (h : am_one E M (Instr.getfield x) C.1 C.2.1 C.2.2.1 C.2.2.2 = some C1) (kk : am_AW D B ra cA n0 n1 z1 M p l e R s m args below meth c Q C1) : am_AW D B ra cA n0 n1 z1 M p l e R s m args below meth c Q C := by
  obtain ⟨pc, ls, st, hp⟩ := C
  intro H locs lsA cells slots hP hS hl hc hs hnn
  obtain ⟨hx, hb, hml, hown, hts, hK, hro, hr, hlk, hini, hB, hR1, hR2, hok, hR3, hR4⟩ := F
  obtain rfl : nn = 3 := hn.resolve_left (by simp [am_ln])
  have hdg : decode (am_cc M) pc = .ok ((Instr.getfield x), 3) := hdg0
  simp only [am_one] at h
  split at h
  · next a r ci k hpl =>
    split at h
    · next ha =>
      split at h
      · next cj fs hcell =>
        split at h
        · next hcj =>
          subst hcj
          split at h
          · next v hv =>
            cases h
            obtain ⟨q, ty, h1, h2, h3, h4⟩ := am_fl hpl
            obtain ⟨-, -, hlay⟩ := am_cl_ty _ q ty h1 h2
            rw [List.map_cons, am_v_lo ha]
            refine va_get (C := q.1) (T := q.2.1) (N := q.2.2) hx hb hts hlay hown hK hP a (am_w_at hcell) h1 k h3 (hts _ h4) (fun x hx => hx) (v := am_v B ra v) (by rw [List.getElem?_map, hv]; rfl) hdg ?_
            exact kk H locs lsA cells slots hP hS hl hc hs hnn
          · cases h
        · cases h
      · cases h
    · cases h
  · next a r _ _ hpl =>
    split at h
    · next ha =>
      cases h
      obtain ⟨h1, -⟩ := am_pl_ok hpl
      obtain ⟨i, ha2, rfl⟩ := am_half ha
      rw [List.map_cons, am_v_hi (by omega)]
      refine vk_getf hx hb (hro.2.1 i ha2).2.2 hS hown (hts _ (h1 _ List.mem_cons_self)) (fun x hx => hx) hdg ?_
      have kk2 := kk H locs lsA cells slots hP hS hl hc hs hnn
      rw [List.map_cons, am_v_hi (by omega)] at kk2
      exact kk2
    · cases h
  · next a r _ _ hpl =>
    split at h
    · next ha =>
      cases h
      obtain ⟨h1, -⟩ := am_pl_ok hpl
      obtain ⟨i, ha2, rfl⟩ := am_half ha
      rw [List.map_cons, am_v_hi (by omega)]
      refine vk_getf hx hb (hro.2.1 i ha2).2.1 hS hown (hts _ (h1 _ List.mem_cons_self)) (fun x hx => hx) hdg ?_
      exact kk H locs lsA cells slots hP hS hl hc hs hnn
    · cases h
  · cases h
set_option maxHeartbeats 4000000 in
theorem am_o_putfield (x : Nat) (F : am_Fr D B ra cA E n0 d M p R s m args meth c) {nn : Nat} {C C1 : am_C} (hdg0 : decode (am_cc M) C.1 = .ok ((Instr.putfield x), nn)) (hn : am_ln (Instr.putfield x) = 0 ∨ nn = am_ln (Instr.putfield x)) (h : am_one E M (Instr.putfield x) C.1 C.2.1 C.2.2.1 C.2.2.2 = some C1) (kk : am_AW D B ra cA n0 n1 z1 M p l e R s m args below meth c Q C1) : am_AW D B ra cA n0 n1 z1 M p l e R s m args below meth c Q C := by
  obtain ⟨pc, ls, st, hp⟩ := C
  intro H locs lsA cells slots hP hS hl hc hs hnn
  obtain ⟨hx, hb, hml, hown, hts, hK, hro, hr, hlk, hini, hB, hR1, hR2, hok, hR3, hR4⟩ := F
  obtain rfl : nn = 3 := hn.resolve_left (by simp [am_ln])
  have hdg : decode (am_cc M) pc = .ok ((Instr.putfield x), 3) := hdg0
  simp only [am_one] at h
  split at h
  · next v a r ci k hpl =>
    split at h
    · next ha =>
      split at h
      · next cj fs q ty hcell hq hty =>
        split at h
        · next hcond =>
          obtain ⟨hcj, hk, hfit, hfin⟩ := hcond
          subst hcj
          cases h
          obtain ⟨q', ty', h1, h2, h3, h4⟩ := am_fl hpl
          cases hq.symm.trans h1
          cases hty.symm.trans h2
          obtain ⟨hpt, hnm, hlay⟩ := am_cl_ty _ q ty h1 h2
          obtain ⟨hf1, hf2⟩ := am_fit_ok (B := B) (ra := ra) hfit
          rw [List.map_cons, List.map_cons, am_v_lo ha]
          have hstep : ∀ (H1 : Heap) (locs1 : List Loc), va_P D am_cl ((am_w B ra cA hp).set a (B + a, .inr (cj, (fs.map (am_v B ra)).set k (am_v B ra v)))) H1 → va_D (fun q => B ≤ q) ((am_w B ra cA hp).set a (B + a, .inr (cj, (fs.map (am_v B ra)).set k (am_v B ra v)))) → va_S (fun q => B ≤ q) s.heap H1 locs1 → W p l e R s m args below meth c H1 locs1 cells slots Q (F0 m (pc + 3) lsA (r.map (am_v B ra))) := by
            intro H1 locs1 hP1 _ hS1
            have e1 : (am_w B ra cA hp).set a (B + a, .inr (cj, (fs.map (am_v B ra)).set k (am_v B ra v))) = am_w B ra cA (hp.set a (.inr (cj, fs.set k v))) := by
              rw [← am_w_set]
              show _ = (am_w B ra cA hp).set a (B + a, .inr (cj, (fs.set k v).map (am_v B ra)))
              rw [List.map_set]
            rw [e1] at hP1
            refine kk H1 locs1 lsA cells slots hP1 hS1 hl ?_ ?_ hnn
            · show _ = (hp.set a _).length
              rw [List.length_set]
              exact hc
            · show _ ≤ R.slots + am_sz (hp.set a _)
              rw [am_sz_set hcell (by simp [am_cz])]
              exact hs
          rcases hfin with ⟨hi1, hi2⟩ | hi3
          · by_cases hfl : (q.2.1 k).2.2.2 = true
            · exact va_putF (C := q.1) (T := q.2.1) (N := q.2.2) hx hb hts hlay ty hpt hnm hown hK hP am_w_D hS a (am_w_at hcell) h1 k h3 (hts _ h4) (fun x hx => hx) hfl (hini hi1) hi2 (hpt k h3) hf1 hf2 (by rw [List.length_map]; exact hk) hdg hstep
            · exact va_put (C := q.1) (T := q.2.1) (N := q.2.2) hx hb hts hlay ty hpt hnm hown hK hP am_w_D hS a (am_w_at hcell) h1 k h3 (hts _ h4) (fun x hx => hx) (by simpa using hfl) (hpt k h3) hf1 hf2 (by rw [List.length_map]; exact hk) hdg hstep
          · exact va_put (C := q.1) (T := q.2.1) (N := q.2.2) hx hb hts hlay ty hpt hnm hown hK hP am_w_D hS a (am_w_at hcell) h1 k h3 (hts _ h4) (fun x hx => hx) hi3 (hpt k h3) hf1 hf2 (by rw [List.length_map]; exact hk) hdg hstep
        · cases h
      · cases h
    · cases h
  · cases h
set_option maxHeartbeats 4000000 in
theorem am_o_getstatic (x : Nat) (F : am_Fr D B ra cA E n0 d M p R s m args meth c) {nn : Nat} {C C1 : am_C} (hdg0 : decode (am_cc M) C.1 = .ok ((Instr.getstatic x), nn)) (hn : am_ln (Instr.getstatic x) = 0 ∨ nn = am_ln (Instr.getstatic x)) (h : am_one E M (Instr.getstatic x) C.1 C.2.1 C.2.2.1 C.2.2.2 = some C1) (kk : am_AW D B ra cA n0 n1 z1 M p l e R s m args below meth c Q C1) : am_AW D B ra cA n0 n1 z1 M p l e R s m args below meth c Q C := by
  obtain ⟨pc, ls, st, hp⟩ := C
  intro H locs lsA cells slots hP hS hl hc hs hnn
  obtain ⟨hx, hb, hml, hown, hts, hK, hro, hr, hlk, hini, hB, hR1, hR2, hok, hR3, hR4⟩ := F
  obtain rfl : nn = 3 := hn.resolve_left (by simp [am_ln])
  have hdg : decode (am_cc M) pc = .ok ((Instr.getstatic x), 3) := hdg0
  simp only [am_one] at h
  split at h
  · next _ _ hpl =>
    cases h
    obtain ⟨h1, -⟩ := am_pl_ok hpl
    refine va_gets hx hb hro.2.2.2.1 hS hown (hts _ (h1 _ List.mem_cons_self)) (fun x hx => hx) hdg ?_
    exact kk H locs lsA cells slots hP hS hl hc hs hnn
  · next _ _ hpl =>
    cases h
    obtain ⟨-, h2⟩ := am_pl_ok hpl
    simp only [am_sd, decide_eq_true_eq] at h2
    refine va_getsN hx hb hro.2.2.2.2.1 hS hown (by rw [h2.1, h2.2]; exact va_Nw.use rfl hro.2.2.2.2.2.2.1) (fun x hx => hx) hdg ?_
    exact kk H locs lsA cells slots hP hS hl hc hs hnn
  · cases h
set_option maxHeartbeats 4000000 in
theorem am_o_ldc (x : Nat) (F : am_Fr D B ra cA E n0 d M p R s m args meth c) {nn : Nat} {C C1 : am_C} (hdg0 : decode (am_cc M) C.1 = .ok ((Instr.ldc x), nn)) (hn : am_ln (Instr.ldc x) = 0 ∨ nn = am_ln (Instr.ldc x)) (h : am_one E M (Instr.ldc x) C.1 C.2.1 C.2.2.1 C.2.2.2 = some C1) (kk : am_AW D B ra cA n0 n1 z1 M p l e R s m args below meth c Q C1) : am_AW D B ra cA n0 n1 z1 M p l e R s m args below meth c Q C := by
  obtain ⟨pc, ls, st, hp⟩ := C
  intro H locs lsA cells slots hP hS hl hc hs hnn
  obtain ⟨hx, hb, hml, hown, hts, hK, hro, hr, hlk, hini, hB, hR1, hR2, hok, hR3, hR4⟩ := F
  obtain rfl : nn = 2 := hn.resolve_left (by simp [am_ln])
  have hdg : decode (am_cc M) pc = .ok ((Instr.ldc x), 2) := hdg0
  simp only [am_one] at h
  split at h
  · next j _ hpl =>
    cases h
    obtain ⟨-, h2⟩ := am_pl_ok hpl
    simp only [am_sd] at h2
    cases hj : am_lit[j]? with
    | none => rw [hj] at h2; cases h2
    | some q =>
      rw [hj] at h2
      simp only [decide_eq_true_eq] at h2
      have hZ := hro.2.2.1 j q hj
      rw [h2.1, h2.2] at hZ
      refine va_ldcS hx hb hown hZ hdg ?_
      have kk2 := kk H locs lsA cells slots hP hS hl hc hs hnn
      rw [List.map_cons, am_v_hi (by omega)] at kk2
      exact kk2
  · cases h
set_option maxHeartbeats 4000000 in
theorem am_o_ldc_w (x : Nat) (F : am_Fr D B ra cA E n0 d M p R s m args meth c) {nn : Nat} {C C1 : am_C} (hdg0 : decode (am_cc M) C.1 = .ok ((Instr.ldc_w x), nn)) (hn : am_ln (Instr.ldc_w x) = 0 ∨ nn = am_ln (Instr.ldc_w x)) (h : am_one E M (Instr.ldc_w x) C.1 C.2.1 C.2.2.1 C.2.2.2 = some C1) (kk : am_AW D B ra cA n0 n1 z1 M p l e R s m args below meth c Q C1) : am_AW D B ra cA n0 n1 z1 M p l e R s m args below meth c Q C := by
  obtain ⟨pc, ls, st, hp⟩ := C
  intro H locs lsA cells slots hP hS hl hc hs hnn
  obtain ⟨hx, hb, hml, hown, hts, hK, hro, hr, hlk, hini, hB, hR1, hR2, hok, hR3, hR4⟩ := F
  obtain rfl : nn = 3 := hn.resolve_left (by simp [am_ln])
  have hdg : decode (am_cc M) pc = .ok ((Instr.ldc_w x), 3) := hdg0
  simp only [am_one] at h
  split at h
  · next j _ hpl =>
    split at h
    · next v hv =>
      cases h
      obtain ⟨h1, -⟩ := am_pl_ok hpl
      simp only [am_ws, hv] at h1
      refine lv_ldcw hx hb hown (hts _ (h1 _ List.mem_cons_self)) hdg ?_
      exact kk H locs lsA cells slots hP hS hl hc hs hnn
    · cases h
  · cases h
set_option maxHeartbeats 4000000 in
theorem am_o_ldc2_w (x : Nat) (F : am_Fr D B ra cA E n0 d M p R s m args meth c) {nn : Nat} {C C1 : am_C} (hdg0 : decode (am_cc M) C.1 = .ok ((Instr.ldc2_w x), nn)) (hn : am_ln (Instr.ldc2_w x) = 0 ∨ nn = am_ln (Instr.ldc2_w x)) (h : am_one E M (Instr.ldc2_w x) C.1 C.2.1 C.2.2.1 C.2.2.2 = some C1) (kk : am_AW D B ra cA n0 n1 z1 M p l e R s m args below meth c Q C1) : am_AW D B ra cA n0 n1 z1 M p l e R s m args below meth c Q C := by
  obtain ⟨pc, ls, st, hp⟩ := C
  intro H locs lsA cells slots hP hS hl hc hs hnn
  obtain ⟨hx, hb, hml, hown, hts, hK, hro, hr, hlk, hini, hB, hR1, hR2, hok, hR3, hR4⟩ := F
  obtain rfl : nn = 3 := hn.resolve_left (by simp [am_ln])
  have hdg : decode (am_cc M) pc = .ok ((Instr.ldc2_w x), 3) := hdg0
  simp only [am_one] at h
  split at h
  · next j _ hpl =>
    split at h
    · next v hv =>
      cases h
      obtain ⟨h1, -⟩ := am_pl_ok hpl
      simp only [am_ws, hv] at h1
      refine lv_ldc2 hx hb hown (hts _ (h1 _ List.mem_cons_self)) hdg ?_
      exact kk H locs lsA cells slots hP hS hl hc hs hnn
    · cases h
  · cases h
set_option maxHeartbeats 4000000 in
theorem am_o_iaload  (F : am_Fr D B ra cA E n0 d M p R s m args meth c) {nn : Nat} {C C1 : am_C} (hdg0 : decode (am_cc M) C.1 = .ok ((Instr.iaload), nn)) (hn : am_ln (Instr.iaload) = 0 ∨ nn = am_ln (Instr.iaload)) (h : am_one E M (Instr.iaload) C.1 C.2.1 C.2.2.1 C.2.2.2 = some C1) (kk : am_AW D B ra cA n0 n1 z1 M p l e R s m args below meth c Q C1) : am_AW D B ra cA n0 n1 z1 M p l e R s m args below meth c Q C := by
  obtain ⟨pc, ls, st, hp⟩ := C
  intro H locs lsA cells slots hP hS hl hc hs hnn
  obtain ⟨hx, hb, hml, hown, hts, hK, hro, hr, hlk, hini, hB, hR1, hR2, hok, hR3, hR4⟩ := F
  obtain rfl : nn = 1 := hn.resolve_left (by simp [am_ln])
  have hdg : decode (am_cc M) pc = .ok ((Instr.iaload), 1) := hdg0
  simp only [am_one] at h
  split at h
  · next j a r =>
    split at h
    · next ha =>
      split at h
      · next n f hcell =>
        split at h
        · next hin =>
          cases h
          rw [List.map_cons, List.map_cons, am_v_lo ha]
          refine va_iald (cA := cA 0) hx hb hK hP a 0 (am_w_at hcell) rfl (am_in_ok hin) hdg ?_
          exact kk H locs lsA cells slots hP hS hl hc hs hnn
        · cases h
      · cases h
    · next ha =>
      split at h
      · next n f hE =>
        split at h
        · next hin =>
          cases h
          rw [List.map_cons, List.map_cons, am_v_hi ha]
          rcases hro.1 a _ hE with ⟨-, hT⟩ | ⟨h0, -⟩
          · refine va_ti hx hb hT hS (am_in_ok hin) rfl hdg ?_
            exact kk H locs lsA cells slots hP hS hl hc hs hnn
          · cases h0
        · cases h
      · cases h
  · cases h
set_option maxHeartbeats 4000000 in
theorem am_o_laload  (F : am_Fr D B ra cA E n0 d M p R s m args meth c) {nn : Nat} {C C1 : am_C} (hdg0 : decode (am_cc M) C.1 = .ok ((Instr.laload), nn)) (hn : am_ln (Instr.laload) = 0 ∨ nn = am_ln (Instr.laload)) (h : am_one E M (Instr.laload) C.1 C.2.1 C.2.2.1 C.2.2.2 = some C1) (kk : am_AW D B ra cA n0 n1 z1 M p l e R s m args below meth c Q C1) : am_AW D B ra cA n0 n1 z1 M p l e R s m args below meth c Q C := by
  obtain ⟨pc, ls, st, hp⟩ := C
  intro H locs lsA cells slots hP hS hl hc hs hnn
  obtain ⟨hx, hb, hml, hown, hts, hK, hro, hr, hlk, hini, hB, hR1, hR2, hok, hR3, hR4⟩ := F
  obtain rfl : nn = 1 := hn.resolve_left (by simp [am_ln])
  have hdg : decode (am_cc M) pc = .ok ((Instr.laload), 1) := hdg0
  simp only [am_one] at h
  split at h
  · next j a r =>
    split at h
    · next ha =>
      split at h
      · next n f hcell =>
        split at h
        · next hin =>
          cases h
          rw [List.map_cons, List.map_cons, am_v_lo ha]
          refine va_lald (cA := cA 1) hx hb hK hP a 1 (am_w_at hcell) rfl (am_in_ok hin) hdg ?_
          exact kk H locs lsA cells slots hP hS hl hc hs hnn
        · cases h
      · cases h
    · cases h
  · cases h
set_option maxHeartbeats 4000000 in
theorem am_o_caload  (F : am_Fr D B ra cA E n0 d M p R s m args meth c) {nn : Nat} {C C1 : am_C} (hdg0 : decode (am_cc M) C.1 = .ok ((Instr.caload), nn)) (hn : am_ln (Instr.caload) = 0 ∨ nn = am_ln (Instr.caload)) (h : am_one E M (Instr.caload) C.1 C.2.1 C.2.2.1 C.2.2.2 = some C1) (kk : am_AW D B ra cA n0 n1 z1 M p l e R s m args below meth c Q C1) : am_AW D B ra cA n0 n1 z1 M p l e R s m args below meth c Q C := by
  obtain ⟨pc, ls, st, hp⟩ := C
  intro H locs lsA cells slots hP hS hl hc hs hnn
  obtain ⟨hx, hb, hml, hown, hts, hK, hro, hr, hlk, hini, hB, hR1, hR2, hok, hR3, hR4⟩ := F
  obtain rfl : nn = 1 := hn.resolve_left (by simp [am_ln])
  have hdg : decode (am_cc M) pc = .ok ((Instr.caload), 1) := hdg0
  simp only [am_one] at h
  split at h
  · next j a r =>
    split at h
    · next ha =>
      split at h
      · next n f hcell =>
        split at h
        · next hin =>
          cases h
          rw [List.map_cons, List.map_cons, am_v_lo ha]
          refine va_cald (cA := cA 2) hx hb hK hP a 2 (am_w_at hcell) rfl (am_in_ok hin) hdg ?_
          exact kk H locs lsA cells slots hP hS hl hc hs hnn
        · cases h
      · cases h
    · cases h
  · cases h
set_option maxHeartbeats 4000000 in
theorem am_o_aaload  (F : am_Fr D B ra cA E n0 d M p R s m args meth c) {nn : Nat} {C C1 : am_C} (hdg0 : decode (am_cc M) C.1 = .ok ((Instr.aaload), nn)) (hn : am_ln (Instr.aaload) = 0 ∨ nn = am_ln (Instr.aaload)) (h : am_one E M (Instr.aaload) C.1 C.2.1 C.2.2.1 C.2.2.2 = some C1) (kk : am_AW D B ra cA n0 n1 z1 M p l e R s m args below meth c Q C1) : am_AW D B ra cA n0 n1 z1 M p l e R s m args below meth c Q C := by
  obtain ⟨pc, ls, st, hp⟩ := C
  intro H locs lsA cells slots hP hS hl hc hs hnn
  obtain ⟨hx, hb, hml, hown, hts, hK, hro, hr, hlk, hini, hB, hR1, hR2, hok, hR3, hR4⟩ := F
  obtain rfl : nn = 1 := hn.resolve_left (by simp [am_ln])
  have hdg : decode (am_cc M) pc = .ok ((Instr.aaload), 1) := hdg0
  simp only [am_one] at h
  split at h
  · next j a r =>
    split at h
    · next ha =>
      split at h
      · next n f hcell =>
        split at h
        · next hin =>
          split at h
          · next q hq =>
            cases h
            rw [List.map_cons, List.map_cons, am_v_lo ha]
            have hvi := am_in_ok hin
            have hlt : j.toNatClampNeg < n := Nat.not_le.mp fun z => hvi (Or.inr z)
            have hcl : H[B + a]? = some (vp_cell (cA 3) (n, .inr (.inr (.inr (.inr (fun i => (f i).map (am_ad B ra))))))) := hP a _ (am_w_at hcell)
            refine W.aald (v := .ref (am_ad B ra q)) (ty := .array .int) hx hb hcl ((hK.2 3 _ rfl).1 n (fun i => va_rf ((f i).map (am_ad B ra)))) rfl (fun z => by cases z) (by show ¬ (j < 0 ∨ (arrV _ _ _).slots.size ≤ _); rw [arrV_size]; exact hvi) (by show (arrV _ _ _).slots[_]? = _; rw [arrV_read _ _ hlt]; show some (va_rf ((f j.toNatClampNeg).map (am_ad B ra))) = _; rw [hq]; rfl) rfl rfl hdg ?_
            exact kk H locs lsA cells slots hP hS hl hc hs hnn
          · cases h
        · cases h
      · cases h
    · cases h
  · cases h
set_option maxHeartbeats 4000000 in
theorem am_o_baload  (F : am_Fr D B ra cA E n0 d M p R s m args meth c) {nn : Nat} {C C1 : am_C} (hdg0 : decode (am_cc M) C.1 = .ok ((Instr.baload), nn)) (hn : am_ln (Instr.baload) = 0 ∨ nn = am_ln (Instr.baload)) (h : am_one E M (Instr.baload) C.1 C.2.1 C.2.2.1 C.2.2.2 = some C1) (kk : am_AW D B ra cA n0 n1 z1 M p l e R s m args below meth c Q C1) : am_AW D B ra cA n0 n1 z1 M p l e R s m args below meth c Q C := by
  obtain ⟨pc, ls, st, hp⟩ := C
  intro H locs lsA cells slots hP hS hl hc hs hnn
  obtain ⟨hx, hb, hml, hown, hts, hK, hro, hr, hlk, hini, hB, hR1, hR2, hok, hR3, hR4⟩ := F
  obtain rfl : nn = 1 := hn.resolve_left (by simp [am_ln])
  have hdg : decode (am_cc M) pc = .ok ((Instr.baload), 1) := hdg0
  simp only [am_one] at h
  split at h
  · next j a r =>
    split at h
    · next n f hE =>
      split at h
      · next hin =>
        cases h
        rw [List.map_cons, List.map_cons, am_v_hi (Nat.not_lt.mpr hin.1)]
        rcases hro.1 a _ hE with ⟨h0, -⟩ | ⟨-, hT⟩
        · cases h0
        · refine va_tb hx hb hT hS (am_in_ok hin.2) rfl hdg ?_
          exact kk H locs lsA cells slots hP hS hl hc hs hnn
      · cases h
    · cases h
  · cases h
set_option maxHeartbeats 4000000 in
theorem am_o_iastore  (F : am_Fr D B ra cA E n0 d M p R s m args meth c) {nn : Nat} {C C1 : am_C} (hdg0 : decode (am_cc M) C.1 = .ok ((Instr.iastore), nn)) (hn : am_ln (Instr.iastore) = 0 ∨ nn = am_ln (Instr.iastore)) (h : am_one E M (Instr.iastore) C.1 C.2.1 C.2.2.1 C.2.2.2 = some C1) (kk : am_AW D B ra cA n0 n1 z1 M p l e R s m args below meth c Q C1) : am_AW D B ra cA n0 n1 z1 M p l e R s m args below meth c Q C := by
  obtain ⟨pc, ls, st, hp⟩ := C
  intro H locs lsA cells slots hP hS hl hc hs hnn
  obtain ⟨hx, hb, hml, hown, hts, hK, hro, hr, hlk, hini, hB, hR1, hR2, hok, hR3, hR4⟩ := F
  obtain rfl : nn = 1 := hn.resolve_left (by simp [am_ln])
  have hdg : decode (am_cc M) pc = .ok ((Instr.iastore), 1) := hdg0
  simp only [am_one] at h
  split at h
  · next x j a r =>
    split at h
    · next ha =>
      split at h
      · next n f hcell =>
        split at h
        · next hin =>
          cases h
          rw [List.map_cons, List.map_cons, List.map_cons, am_v_lo ha]
          refine va_iast (cA := cA 0) hx hb hK hP am_w_D hS a 0 (am_w_at hcell) rfl (am_in_ok hin) hdg (fun H1 locs1 hP1 _ hS1 => ?_)
          have e1 : (am_w B ra cA hp).set a (B + a, .inl (cA 0, n, .inl (upd f j.toNatClampNeg x))) = am_w B ra cA (hp.set a (.inl (0, n, .inl (upd f j.toNatClampNeg x)))) := by
            rw [← am_w_set]
            rfl
          rw [e1] at hP1
          refine kk H1 locs1 lsA cells slots hP1 hS1 hl ?_ ?_ hnn
          · show _ = (hp.set a _).length
            rw [List.length_set]
            exact hc
          · show _ ≤ R.slots + am_sz (hp.set a _)
            rw [am_sz_set hcell (by simp [am_cz])]
            exact hs
        · cases h
      · cases h
    · cases h
  · cases h
set_option maxHeartbeats 4000000 in
theorem am_o_lastore  (F : am_Fr D B ra cA E n0 d M p R s m args meth c) {nn : Nat} {C C1 : am_C} (hdg0 : decode (am_cc M) C.1 = .ok ((Instr.lastore), nn)) (hn : am_ln (Instr.lastore) = 0 ∨ nn = am_ln (Instr.lastore)) (h : am_one E M (Instr.lastore) C.1 C.2.1 C.2.2.1 C.2.2.2 = some C1) (kk : am_AW D B ra cA n0 n1 z1 M p l e R s m args below meth c Q C1) : am_AW D B ra cA n0 n1 z1 M p l e R s m args below meth c Q C := by
  obtain ⟨pc, ls, st, hp⟩ := C
  intro H locs lsA cells slots hP hS hl hc hs hnn
  obtain ⟨hx, hb, hml, hown, hts, hK, hro, hr, hlk, hini, hB, hR1, hR2, hok, hR3, hR4⟩ := F
  obtain rfl : nn = 1 := hn.resolve_left (by simp [am_ln])
  have hdg : decode (am_cc M) pc = .ok ((Instr.lastore), 1) := hdg0
  simp only [am_one] at h
  split at h
  · next x j a r =>
    split at h
    · next ha =>
      split at h
      · next n f hcell =>
        split at h
        · next hin =>
          cases h
          rw [List.map_cons, List.map_cons, List.map_cons, am_v_lo ha]
          refine va_last (cA := cA 1) hx hb hK hP am_w_D hS a 1 (am_w_at hcell) rfl (am_in_ok hin) hdg (fun H1 locs1 hP1 _ hS1 => ?_)
          have e1 : (am_w B ra cA hp).set a (B + a, .inl (cA 1, n, .inr (.inl (vp_updL f j.toNatClampNeg x)))) = am_w B ra cA (hp.set a (.inl (1, n, .inr (.inl (vp_updL f j.toNatClampNeg x))))) := by
            rw [← am_w_set]
            rfl
          rw [e1] at hP1
          refine kk H1 locs1 lsA cells slots hP1 hS1 hl ?_ ?_ hnn
          · show _ = (hp.set a _).length
            rw [List.length_set]
            exact hc
          · show _ ≤ R.slots + am_sz (hp.set a _)
            rw [am_sz_set hcell (by simp [am_cz])]
            exact hs
        · cases h
      · cases h
    · cases h
  · cases h
set_option maxHeartbeats 4000000 in
theorem am_o_castore  (F : am_Fr D B ra cA E n0 d M p R s m args meth c) {nn : Nat} {C C1 : am_C} (hdg0 : decode (am_cc M) C.1 = .ok ((Instr.castore), nn)) (hn : am_ln (Instr.castore) = 0 ∨ nn = am_ln (Instr.castore)) (h : am_one E M (Instr.castore) C.1 C.2.1 C.2.2.1 C.2.2.2 = some C1) (kk : am_AW D B ra cA n0 n1 z1 M p l e R s m args below meth c Q C1) : am_AW D B ra cA n0 n1 z1 M p l e R s m args below meth c Q C := by
  obtain ⟨pc, ls, st, hp⟩ := C
  intro H locs lsA cells slots hP hS hl hc hs hnn
  obtain ⟨hx, hb, hml, hown, hts, hK, hro, hr, hlk, hini, hB, hR1, hR2, hok, hR3, hR4⟩ := F
  obtain rfl : nn = 1 := hn.resolve_left (by simp [am_ln])
  have hdg : decode (am_cc M) pc = .ok ((Instr.castore), 1) := hdg0
  simp only [am_one] at h
  split at h
  · next x j a r =>
    split at h
    · next ha =>
      split at h
      · next n f hcell =>
        split at h
        · next hin =>
          cases h
          rw [List.map_cons, List.map_cons, List.map_cons, am_v_lo ha]
          refine va_cast (cA := cA 2) hx hb hK hP am_w_D hS a 2 (am_w_at hcell) rfl (am_in_ok hin) hdg (fun H1 locs1 hP1 _ hS1 => ?_)
          have e1 : (am_w B ra cA hp).set a (B + a, .inl (cA 2, n, .inl (upd f j.toNatClampNeg (vp_nar .char x)))) = am_w B ra cA (hp.set a (.inl (2, n, .inl (upd f j.toNatClampNeg (vp_nar .char x))))) := by
            rw [← am_w_set]
            rfl
          rw [e1] at hP1
          refine kk H1 locs1 lsA cells slots hP1 hS1 hl ?_ ?_ hnn
          · show _ = (hp.set a _).length
            rw [List.length_set]
            exact hc
          · show _ ≤ R.slots + am_sz (hp.set a _)
            rw [am_sz_set hcell (by simp [am_cz])]
            exact hs
        · cases h
      · cases h
    · cases h
  · cases h
set_option maxHeartbeats 4000000 in
theorem am_o_arraylength  (F : am_Fr D B ra cA E n0 d M p R s m args meth c) {nn : Nat} {C C1 : am_C} (hdg0 : decode (am_cc M) C.1 = .ok ((Instr.arraylength), nn)) (hn : am_ln (Instr.arraylength) = 0 ∨ nn = am_ln (Instr.arraylength)) (h : am_one E M (Instr.arraylength) C.1 C.2.1 C.2.2.1 C.2.2.2 = some C1) (kk : am_AW D B ra cA n0 n1 z1 M p l e R s m args below meth c Q C1) : am_AW D B ra cA n0 n1 z1 M p l e R s m args below meth c Q C := by
  obtain ⟨pc, ls, st, hp⟩ := C
  intro H locs lsA cells slots hP hS hl hc hs hnn
  obtain ⟨hx, hb, hml, hown, hts, hK, hro, hr, hlk, hini, hB, hR1, hR2, hok, hR3, hR4⟩ := F
  obtain rfl : nn = 1 := hn.resolve_left (by simp [am_ln])
  have hdg : decode (am_cc M) pc = .ok ((Instr.arraylength), 1) := hdg0
  simp only [am_one] at h
  split at h
  · next a r =>
    split at h
    · next ha =>
      split at h
      · next t n x hcell =>
        split at h
        · next ht =>
          cases h
          rw [List.map_cons, am_v_lo ha]
          have hat := am_w_at (B := B) (ra := ra) (cA := cA) hcell
          obtain ⟨y, hy, hy1⟩ : ∃ y : vp_A, am_e B ra cA (.inl (t, n, x)) = .inl (cA t, y) ∧ y.1 = n := by
            rcases x with f | f | f | f | f
            · exact ⟨_, rfl, rfl⟩
            · exact ⟨_, rfl, rfl⟩
            · exact ⟨_, rfl, rfl⟩
            · exact ⟨_, rfl, rfl⟩
            · exact ⟨_, rfl, rfl⟩
          rw [hy] at hat
          obtain ⟨ty, hty⟩ : ∃ ty, (am_tys cA)[t]? = some (cA t, ty) := by
            match t, ht with
            | 0, _ => exact ⟨_, rfl⟩
            | 1, _ => exact ⟨_, rfl⟩
            | 2, _ => exact ⟨_, rfl⟩
            | 3, _ => exact ⟨_, rfl⟩
            | t + 4, ht => exact absurd ht (Nat.not_lt.mpr (Nat.le_add_left 4 t))
          refine va_alen hx hb hK hP a t hat hty (v := Int32.ofNat n) (by rw [hy1]) hdg ?_
          exact kk H locs lsA cells slots hP hS hl hc hs hnn
        · cases h
      · cases h
    · next ha =>
      split at h
      · next t n f hE =>
        cases h
        rw [List.map_cons, am_v_hi ha]
        rcases hro.1 a _ hE with ⟨-, hT⟩ | ⟨-, hT⟩
        · refine va_tlen hx hb hT hS rfl hdg ?_
          exact kk H locs lsA cells slots hP hS hl hc hs hnn
        · refine va_tlen hx hb hT hS rfl hdg ?_
          exact kk H locs lsA cells slots hP hS hl hc hs hnn
      · cases h
  · cases h
set_option maxHeartbeats 4000000 in
theorem am_o_invokestatic (x : Nat) (F : am_Fr D B ra cA E n0 d M p R s m args meth c) {nn : Nat} {C C1 : am_C} (hdg0 : decode (am_cc M) C.1 = .ok ((Instr.invokestatic x), nn)) (hn : am_ln (Instr.invokestatic x) = 0 ∨ nn = am_ln (Instr.invokestatic x)) (h : am_one E M (Instr.invokestatic x) C.1 C.2.1 C.2.2.1 C.2.2.2 = some C1) (kk : am_AW D B ra cA n0 n1 z1 M p l e R s m args below meth c Q C1) : am_AW D B ra cA n0 n1 z1 M p l e R s m args below meth c Q C := by
  obtain ⟨pc, ls, st, hp⟩ := C
  intro H locs lsA cells slots hP hS hl hc hs hnn
  obtain ⟨hx, hb, hml, hown, hts, hK, hro, hr, hlk, hini, hB, hR1, hR2, hok, hR3, hR4⟩ := F
  obtain rfl : nn = 3 := hn.resolve_left (by simp [am_ln])
  have hdg : decode (am_cc M) pc = .ok ((Instr.invokestatic x), 3) := hdg0
  simp only [am_one] at h
  split at h
  · next n dp a sp a0 r _ _ hpl =>
    split at h
    · next ha =>
      split at h
      · next n0' f n1' g hcell0 hcell1 =>
        split at h
        · next hcnd =>
          cases h
          obtain ⟨c1, c2, c3, c4, c5, c6⟩ := hcnd
          obtain ⟨h1, -⟩ := am_pl_ok hpl
          simp only [am_ws] at h1
          rw [List.map_cons, List.map_cons, List.map_cons, List.map_cons, List.map_cons, am_v_lo ha.1, am_v_lo ha.2]
          refine va_copyi (ty := .int) (c0 := cA 0) (c1 := cA 0) hx hb (by rw [hml]; exact hl.1.symm) hown (hts _ (h1 _ (by simp))) (hts _ (h1 _ (by simp))) (hts _ (h1 _ (by simp))) (hts _ (h1 _ (by simp))) hK hP am_w_D hS a0 a 0 0 (am_w_at hcell0) (am_w_at hcell1) rfl rfl rfl c1 c2 c3 c4 c5 (fun _ _ => rfl) hR3 ?_ hdg (fun H1 locs1 hP1 _ hS1 => ?_)
          · rw [am_cats]
            have hnf : nativeFrameWords "java/lang/System" "arraycopy" 5 + 11 ≤ 52 := by decide +kernel
            omega
          · have e1 : (am_w B ra cA hp).set a (B + a, .inl (cA 0, n1', .inl (va_cpy f g sp.toNatClampNeg dp.toNatClampNeg n.toNatClampNeg))) = am_w B ra cA (hp.set a (.inl (0, n1', .inl (va_cpy f g sp.toNatClampNeg dp.toNatClampNeg n.toNatClampNeg)))) := by
              rw [← am_w_set]
              rfl
            rw [e1] at hP1
            refine kk H1 locs1 lsA cells slots hP1 hS1 hl ?_ ?_ hnn
            · show _ = (hp.set a _).length
              rw [List.length_set]
              exact hc
            · show _ ≤ R.slots + am_sz (hp.set a _)
              rw [am_sz_set hcell1 (by simp [am_cz])]
              exact hs
        · cases h
      · cases h
    · cases h
  · cases h
set_option maxHeartbeats 4000000 in
theorem am_o_invokespecial (x : Nat) (F : am_Fr D B ra cA E n0 d M p R s m args meth c) {nn : Nat} {C C1 : am_C} (hdg0 : decode (am_cc M) C.1 = .ok ((Instr.invokespecial x), nn)) (hn : am_ln (Instr.invokespecial x) = 0 ∨ nn = am_ln (Instr.invokespecial x)) (h : am_one E M (Instr.invokespecial x) C.1 C.2.1 C.2.2.1 C.2.2.2 = some C1) (kk : am_AW D B ra cA n0 n1 z1 M p l e R s m args below meth c Q C1) : am_AW D B ra cA n0 n1 z1 M p l e R s m args below meth c Q C := by
  obtain ⟨pc, ls, st, hp⟩ := C
  intro H locs lsA cells slots hP hS hl hc hs hnn
  obtain ⟨hx, hb, hml, hown, hts, hK, hro, hr, hlk, hini, hB, hR1, hR2, hok, hR3, hR4⟩ := F
  obtain rfl : nn = 3 := hn.resolve_left (by simp [am_ln])
  have hdg : decode (am_cc M) pc = .ok ((Instr.invokespecial x), 3) := hdg0
  simp only [am_one] at h
  split at h
  · next a r _ _ hpl =>
    split at h
    · next hcat =>
      cases h
      obtain ⟨h1, -⟩ := am_pl_ok hpl
      simp only [am_ws] at h1
      refine W.objInit (a := am_ad B ra a) (rest := r.map (am_v B ra)) hx hb hown (hts _ (h1 _ (by simp))) (hts _ (h1 _ (by simp))) (hts _ (am_mem am_cO rfl)) rfl (by rw [hml]; exact hl.1) rfl hdg hR3 ?_ ?_
      · show 2 * 0 + ((r.map (am_v B ra)).map fun v => v.category).sum + 12 ≤ _
        rw [am_cats]
        omega
      · exact kk H locs lsA cells slots hP hS hl hc hs hnn
    · cases h
  · cases h
end AMP
end
section
/-! one instruction, whichever; the instructions that make cells -/
section AMQ
variable {D : va_G} {B : Nat} {ra : Nat → Nat} {cA : Nat → ClassId} {E : am_Env} {n0 n1 z1 d : Nat} {M : am_M} {p : Program} {l : Launch} {e : Env} {R : Room} {s : State} {m : MethodId} {args : Array Value} {below : List Frame} {meth : Method} {c : Code} {Q : State → Prop}
set_option maxHeartbeats 4000000 in
theorem am_one_ok {i : Instr} (F : am_Fr D B ra cA E n0 d M p R s m args meth c) {nn : Nat} {C C1 : am_C} (hdg0 : decode (am_cc M) C.1 = .ok (i, nn)) (hn : am_ln i = 0 ∨ nn = am_ln i) (h : am_one E M i C.1 C.2.1 C.2.2.1 C.2.2.2 = some C1) (kk : am_AW D B ra cA n0 n1 z1 M p l e R s m args below meth c Q C1) : am_AW D B ra cA n0 n1 z1 M p l e R s m args below meth c Q C := by
  cases i with
  | iconst k => exact am_o_iconst k F hdg0 hn h kk
  | bipush k => exact am_o_bipush k F hdg0 hn h kk
  | sipush k => exact am_o_sipush k F hdg0 hn h kk
  | lconst k => exact am_o_lconst k F hdg0 hn h kk
  | iload_n k => exact am_o_iload_n k F hdg0 hn h kk
  | iload k => exact am_o_iload k F hdg0 hn h kk
  | lload_n k => exact am_o_lload_n k F hdg0 hn h kk
  | lload k => exact am_o_lload k F hdg0 hn h kk
  | aload_n k => exact am_o_aload_n k F hdg0 hn h kk
  | aload k => exact am_o_aload k F hdg0 hn h kk
  | istore_n k => exact am_o_istore_n k F hdg0 hn h kk
  | istore k => exact am_o_istore k F hdg0 hn h kk
  | lstore_n k => exact am_o_lstore_n k F hdg0 hn h kk
  | lstore k => exact am_o_lstore k F hdg0 hn h kk
  | astore_n k => exact am_o_astore_n k F hdg0 hn h kk
  | astore k => exact am_o_astore k F hdg0 hn h kk
  | iinc k n => exact am_o_iinc k n F hdg0 hn h kk
  | iadd => exact am_o_iadd F hdg0 hn h kk
  | isub => exact am_o_isub F hdg0 hn h kk
  | imul => exact am_o_imul F hdg0 hn h kk
  | iand => exact am_o_iand F hdg0 hn h kk
  | ior => exact am_o_ior F hdg0 hn h kk
  | ixor => exact am_o_ixor F hdg0 hn h kk
  | ishl => exact am_o_ishl F hdg0 hn h kk
  | ishr => exact am_o_ishr F hdg0 hn h kk
  | iushr => exact am_o_iushr F hdg0 hn h kk
  | idiv => exact am_o_idiv F hdg0 hn h kk
  | irem => exact am_o_irem F hdg0 hn h kk
  | ladd => exact am_o_ladd F hdg0 hn h kk
  | lsub => exact am_o_lsub F hdg0 hn h kk
  | lmul => exact am_o_lmul F hdg0 hn h kk
  | land => exact am_o_land F hdg0 hn h kk
  | lor => exact am_o_lor F hdg0 hn h kk
  | ldiv => exact am_o_ldiv F hdg0 hn h kk
  | lrem => exact am_o_lrem F hdg0 hn h kk
  | lshl => exact am_o_lshl F hdg0 hn h kk
  | lshr => exact am_o_lshr F hdg0 hn h kk
  | lcmp => exact am_o_lcmp F hdg0 hn h kk
  | i2l => exact am_o_i2l F hdg0 hn h kk
  | l2i => exact am_o_l2i F hdg0 hn h kk
  | i2c => exact am_o_i2c F hdg0 hn h kk
  | dup => exact am_o_dup F hdg0 hn h kk
  | pop => exact am_o_pop F hdg0 hn h kk
  | dup2 => exact am_o_dup2 F hdg0 hn h kk
  | ifCond cd off => exact am_o_ifCond cd off F hdg0 hn h kk
  | if_icmp cd off => exact am_o_if_icmp cd off F hdg0 hn h kk
  | goto off => exact am_o_goto off F hdg0 hn h kk
  | tableswitch dflt lo hi offs => exact am_o_tableswitch dflt lo hi offs F hdg0 hn h kk
  | lookupswitch dflt ps => exact am_o_lookupswitch dflt ps F hdg0 hn h kk
  | getfield x => exact am_o_getfield x F hdg0 hn h kk
  | putfield x => exact am_o_putfield x F hdg0 hn h kk
  | getstatic x => exact am_o_getstatic x F hdg0 hn h kk
  | ldc x => exact am_o_ldc x F hdg0 hn h kk
  | ldc_w x => exact am_o_ldc_w x F hdg0 hn h kk
  | ldc2_w x => exact am_o_ldc2_w x F hdg0 hn h kk
  | iaload => exact am_o_iaload F hdg0 hn h kk
  | laload => exact am_o_laload F hdg0 hn h kk
  | caload => exact am_o_caload F hdg0 hn h kk
  | aaload => exact am_o_aaload F hdg0 hn h kk
  | baload => exact am_o_baload F hdg0 hn h kk
  | iastore => exact am_o_iastore F hdg0 hn h kk
  | lastore => exact am_o_lastore F hdg0 hn h kk
  | castore => exact am_o_castore F hdg0 hn h kk
  | arraylength => exact am_o_arraylength F hdg0 hn h kk
  | invokestatic x => exact am_o_invokestatic x F hdg0 hn h kk
  | invokespecial x => exact am_o_invokespecial x F hdg0 hn h kk
  | _ => simp [am_one] at h
set_option maxHeartbeats 4000000 in
theorem am_one_sz {i : Instr} {pc : Nat} {ls : am_L} {st : List Value} {hp : am_H} {C1 : am_C} (h : am_one E M i pc ls st hp = some C1) : C1.2.2.2.length = hp.length ∧ am_sz C1.2.2.2 = am_sz hp := by
  cases i with
  | iconst k =>
    simp only [am_one] at h
    (repeat' split at h) <;> first | (cases h; done) | (cases h; exact ⟨rfl, rfl⟩) | (cases h; exact ⟨List.length_set, am_sz_set (by assumption) (by simp [am_cz])⟩)
  | bipush k =>
    simp only [am_one] at h
    (repeat' split at h) <;> first | (cases h; done) | (cases h; exact ⟨rfl, rfl⟩) | (cases h; exact ⟨List.length_set, am_sz_set (by assumption) (by simp [am_cz])⟩)
  | sipush k =>
    simp only [am_one] at h
    (repeat' split at h) <;> first | (cases h; done) | (cases h; exact ⟨rfl, rfl⟩) | (cases h; exact ⟨List.length_set, am_sz_set (by assumption) (by simp [am_cz])⟩)
  | lconst k =>
    simp only [am_one] at h
    (repeat' split at h) <;> first | (cases h; done) | (cases h; exact ⟨rfl, rfl⟩) | (cases h; exact ⟨List.length_set, am_sz_set (by assumption) (by simp [am_cz])⟩)
  | iload_n k =>
    simp only [am_one] at h
    (repeat' split at h) <;> first | (cases h; done) | (cases h; exact ⟨rfl, rfl⟩) | (cases h; exact ⟨List.length_set, am_sz_set (by assumption) (by simp [am_cz])⟩)
  | iload k =>
    simp only [am_one] at h
    (repeat' split at h) <;> first | (cases h; done) | (cases h; exact ⟨rfl, rfl⟩) | (cases h; exact ⟨List.length_set, am_sz_set (by assumption) (by simp [am_cz])⟩)
  | lload_n k =>
    simp only [am_one] at h
    (repeat' split at h) <;> first | (cases h; done) | (cases h; exact ⟨rfl, rfl⟩) | (cases h; exact ⟨List.length_set, am_sz_set (by assumption) (by simp [am_cz])⟩)
  | lload k =>
    simp only [am_one] at h
    (repeat' split at h) <;> first | (cases h; done) | (cases h; exact ⟨rfl, rfl⟩) | (cases h; exact ⟨List.length_set, am_sz_set (by assumption) (by simp [am_cz])⟩)
  | aload_n k =>
    simp only [am_one] at h
    (repeat' split at h) <;> first | (cases h; done) | (cases h; exact ⟨rfl, rfl⟩) | (cases h; exact ⟨List.length_set, am_sz_set (by assumption) (by simp [am_cz])⟩)
  | aload k =>
    simp only [am_one] at h
    (repeat' split at h) <;> first | (cases h; done) | (cases h; exact ⟨rfl, rfl⟩) | (cases h; exact ⟨List.length_set, am_sz_set (by assumption) (by simp [am_cz])⟩)
  | istore_n k =>
    simp only [am_one] at h
    (repeat' split at h) <;> first | (cases h; done) | (cases h; exact ⟨rfl, rfl⟩) | (cases h; exact ⟨List.length_set, am_sz_set (by assumption) (by simp [am_cz])⟩)
  | istore k =>
    simp only [am_one] at h
    (repeat' split at h) <;> first | (cases h; done) | (cases h; exact ⟨rfl, rfl⟩) | (cases h; exact ⟨List.length_set, am_sz_set (by assumption) (by simp [am_cz])⟩)
  | lstore_n k =>
    simp only [am_one] at h
    (repeat' split at h) <;> first | (cases h; done) | (cases h; exact ⟨rfl, rfl⟩) | (cases h; exact ⟨List.length_set, am_sz_set (by assumption) (by simp [am_cz])⟩)
  | lstore k =>
    simp only [am_one] at h
    (repeat' split at h) <;> first | (cases h; done) | (cases h; exact ⟨rfl, rfl⟩) | (cases h; exact ⟨List.length_set, am_sz_set (by assumption) (by simp [am_cz])⟩)
  | astore_n k =>
    simp only [am_one] at h
    (repeat' split at h) <;> first | (cases h; done) | (cases h; exact ⟨rfl, rfl⟩) | (cases h; exact ⟨List.length_set, am_sz_set (by assumption) (by simp [am_cz])⟩)
  | astore k =>
    simp only [am_one] at h
    (repeat' split at h) <;> first | (cases h; done) | (cases h; exact ⟨rfl, rfl⟩) | (cases h; exact ⟨List.length_set, am_sz_set (by assumption) (by simp [am_cz])⟩)
  | iinc k n =>
    simp only [am_one] at h
    (repeat' split at h) <;> first | (cases h; done) | (cases h; exact ⟨rfl, rfl⟩) | (cases h; exact ⟨List.length_set, am_sz_set (by assumption) (by simp [am_cz])⟩)
  | iadd =>
    simp only [am_one] at h
    (repeat' split at h) <;> first | (cases h; done) | (cases h; exact ⟨rfl, rfl⟩)
  | isub =>
    simp only [am_one] at h
    (repeat' split at h) <;> first | (cases h; done) | (cases h; exact ⟨rfl, rfl⟩)
  | imul =>
    simp only [am_one] at h
    (repeat' split at h) <;> first | (cases h; done) | (cases h; exact ⟨rfl, rfl⟩)
  | iand =>
    simp only [am_one] at h
    (repeat' split at h) <;> first | (cases h; done) | (cases h; exact ⟨rfl, rfl⟩)
  | ior =>
    simp only [am_one] at h
    (repeat' split at h) <;> first | (cases h; done) | (cases h; exact ⟨rfl, rfl⟩)
  | ixor =>
    simp only [am_one] at h
    (repeat' split at h) <;> first | (cases h; done) | (cases h; exact ⟨rfl, rfl⟩)
  | ishl =>
    simp only [am_one] at h
    (repeat' split at h) <;> first | (cases h; done) | (cases h; exact ⟨rfl, rfl⟩)
  | ishr =>
    simp only [am_one] at h
    (repeat' split at h) <;> first | (cases h; done) | (cases h; exact ⟨rfl, rfl⟩)
  | iushr =>
    simp only [am_one] at h
    (repeat' split at h) <;> first | (cases h; done) | (cases h; exact ⟨rfl, rfl⟩)
  | idiv =>
    simp only [am_one] at h
    (repeat' split at h) <;> first | (cases h; done) | (cases h; exact ⟨rfl, rfl⟩)
  | irem =>
    simp only [am_one] at h
    (repeat' split at h) <;> first | (cases h; done) | (cases h; exact ⟨rfl, rfl⟩)
  | ladd =>
    simp only [am_one] at h
    (repeat' split at h) <;> first | (cases h; done) | (cases h; exact ⟨rfl, rfl⟩)
  | lsub =>
    simp only [am_one] at h
    (repeat' split at h) <;> first | (cases h; done) | (cases h; exact ⟨rfl, rfl⟩)
  | lmul =>
    simp only [am_one] at h
    (repeat' split at h) <;> first | (cases h; done) | (cases h; exact ⟨rfl, rfl⟩)
  | land =>
    simp only [am_one] at h
    (repeat' split at h) <;> first | (cases h; done) | (cases h; exact ⟨rfl, rfl⟩)
  | lor =>
    simp only [am_one] at h
    (repeat' split at h) <;> first | (cases h; done) | (cases h; exact ⟨rfl, rfl⟩)
  | ldiv =>
    simp only [am_one] at h
    (repeat' split at h) <;> first | (cases h; done) | (cases h; exact ⟨rfl, rfl⟩)
  | lrem =>
    simp only [am_one] at h
    (repeat' split at h) <;> first | (cases h; done) | (cases h; exact ⟨rfl, rfl⟩)
  | lshl =>
    simp only [am_one] at h
    (repeat' split at h) <;> first | (cases h; done) | (cases h; exact ⟨rfl, rfl⟩) | (cases h; exact ⟨List.length_set, am_sz_set (by assumption) (by simp [am_cz])⟩)
  | lshr =>
    simp only [am_one] at h
    (repeat' split at h) <;> first | (cases h; done) | (cases h; exact ⟨rfl, rfl⟩) | (cases h; exact ⟨List.length_set, am_sz_set (by assumption) (by simp [am_cz])⟩)
  | lcmp =>
    simp only [am_one] at h
    (repeat' split at h) <;> first | (cases h; done) | (cases h; exact ⟨rfl, rfl⟩) | (cases h; exact ⟨List.length_set, am_sz_set (by assumption) (by simp [am_cz])⟩)
  | i2l =>
    simp only [am_one] at h
    (repeat' split at h) <;> first | (cases h; done) | (cases h; exact ⟨rfl, rfl⟩) | (cases h; exact ⟨List.length_set, am_sz_set (by assumption) (by simp [am_cz])⟩)
  | l2i =>
    simp only [am_one] at h
    (repeat' split at h) <;> first | (cases h; done) | (cases h; exact ⟨rfl, rfl⟩) | (cases h; exact ⟨List.length_set, am_sz_set (by assumption) (by simp [am_cz])⟩)
  | i2c =>
    simp only [am_one] at h
    (repeat' split at h) <;> first | (cases h; done) | (cases h; exact ⟨rfl, rfl⟩) | (cases h; exact ⟨List.length_set, am_sz_set (by assumption) (by simp [am_cz])⟩)
  | dup =>
    simp only [am_one] at h
    (repeat' split at h) <;> first | (cases h; done) | (cases h; exact ⟨rfl, rfl⟩) | (cases h; exact ⟨List.length_set, am_sz_set (by assumption) (by simp [am_cz])⟩)
  | pop =>
    simp only [am_one] at h
    (repeat' split at h) <;> first | (cases h; done) | (cases h; exact ⟨rfl, rfl⟩) | (cases h; exact ⟨List.length_set, am_sz_set (by assumption) (by simp [am_cz])⟩)
  | dup2 =>
    simp only [am_one] at h
    (repeat' split at h) <;> first | (cases h; done) | (cases h; exact ⟨rfl, rfl⟩) | (cases h; exact ⟨List.length_set, am_sz_set (by assumption) (by simp [am_cz])⟩)
  | ifCond cd off =>
    simp only [am_one] at h
    (repeat' split at h) <;> first | (cases h; done) | (cases h; exact ⟨rfl, rfl⟩) | (cases h; exact ⟨List.length_set, am_sz_set (by assumption) (by simp [am_cz])⟩)
  | if_icmp cd off =>
    simp only [am_one] at h
    (repeat' split at h) <;> first | (cases h; done) | (cases h; exact ⟨rfl, rfl⟩) | (cases h; exact ⟨List.length_set, am_sz_set (by assumption) (by simp [am_cz])⟩)
  | goto off =>
    simp only [am_one] at h
    (repeat' split at h) <;> first | (cases h; done) | (cases h; exact ⟨rfl, rfl⟩) | (cases h; exact ⟨List.length_set, am_sz_set (by assumption) (by simp [am_cz])⟩)
  | tableswitch dflt lo hi offs =>
    simp only [am_one] at h
    (repeat' split at h) <;> first | (cases h; done) | (cases h; exact ⟨rfl, rfl⟩) | (cases h; exact ⟨List.length_set, am_sz_set (by assumption) (by simp [am_cz])⟩)
  | lookupswitch dflt ps =>
    simp only [am_one] at h
    (repeat' split at h) <;> first | (cases h; done) | (cases h; exact ⟨rfl, rfl⟩) | (cases h; exact ⟨List.length_set, am_sz_set (by assumption) (by simp [am_cz])⟩)
  | getfield x =>
    simp only [am_one] at h
    (repeat' split at h) <;> first | (cases h; done) | (cases h; exact ⟨rfl, rfl⟩) | (cases h; exact ⟨List.length_set, am_sz_set (by assumption) (by simp [am_cz])⟩)
  | putfield x =>
    simp only [am_one] at h
    (repeat' split at h) <;> first | (cases h; done) | (cases h; exact ⟨rfl, rfl⟩) | (cases h; exact ⟨List.length_set, am_sz_set (by assumption) (by simp [am_cz])⟩)
  | getstatic x =>
    simp only [am_one] at h
    (repeat' split at h) <;> first | (cases h; done) | (cases h; exact ⟨rfl, rfl⟩) | (cases h; exact ⟨List.length_set, am_sz_set (by assumption) (by simp [am_cz])⟩)
  | ldc x =>
    simp only [am_one] at h
    (repeat' split at h) <;> first | (cases h; done) | (cases h; exact ⟨rfl, rfl⟩) | (cases h; exact ⟨List.length_set, am_sz_set (by assumption) (by simp [am_cz])⟩)
  | ldc_w x =>
    simp only [am_one] at h
    (repeat' split at h) <;> first | (cases h; done) | (cases h; exact ⟨rfl, rfl⟩) | (cases h; exact ⟨List.length_set, am_sz_set (by assumption) (by simp [am_cz])⟩)
  | ldc2_w x =>
    simp only [am_one] at h
    (repeat' split at h) <;> first | (cases h; done) | (cases h; exact ⟨rfl, rfl⟩) | (cases h; exact ⟨List.length_set, am_sz_set (by assumption) (by simp [am_cz])⟩)
  | iaload =>
    simp only [am_one] at h
    (repeat' split at h) <;> first | (cases h; done) | (cases h; exact ⟨rfl, rfl⟩) | (cases h; exact ⟨List.length_set, am_sz_set (by assumption) (by simp [am_cz])⟩)
  | laload =>
    simp only [am_one] at h
    (repeat' split at h) <;> first | (cases h; done) | (cases h; exact ⟨rfl, rfl⟩) | (cases h; exact ⟨List.length_set, am_sz_set (by assumption) (by simp [am_cz])⟩)
  | caload =>
    simp only [am_one] at h
    (repeat' split at h) <;> first | (cases h; done) | (cases h; exact ⟨rfl, rfl⟩) | (cases h; exact ⟨List.length_set, am_sz_set (by assumption) (by simp [am_cz])⟩)
  | aaload =>
    simp only [am_one] at h
    (repeat' split at h) <;> first | (cases h; done) | (cases h; exact ⟨rfl, rfl⟩) | (cases h; exact ⟨List.length_set, am_sz_set (by assumption) (by simp [am_cz])⟩)
  | baload =>
    simp only [am_one] at h
    (repeat' split at h) <;> first | (cases h; done) | (cases h; exact ⟨rfl, rfl⟩) | (cases h; exact ⟨List.length_set, am_sz_set (by assumption) (by simp [am_cz])⟩)
  | iastore =>
    simp only [am_one] at h
    (repeat' split at h) <;> first | (cases h; done) | (cases h; exact ⟨rfl, rfl⟩) | (cases h; exact ⟨List.length_set, am_sz_set (by assumption) (by simp [am_cz])⟩)
  | lastore =>
    simp only [am_one] at h
    (repeat' split at h) <;> first | (cases h; done) | (cases h; exact ⟨rfl, rfl⟩) | (cases h; exact ⟨List.length_set, am_sz_set (by assumption) (by simp [am_cz])⟩)
  | castore =>
    simp only [am_one] at h
    (repeat' split at h) <;> first | (cases h; done) | (cases h; exact ⟨rfl, rfl⟩) | (cases h; exact ⟨List.length_set, am_sz_set (by assumption) (by simp [am_cz])⟩)
  | arraylength =>
    simp only [am_one] at h
    (repeat' split at h) <;> first | (cases h; done) | (cases h; exact ⟨rfl, rfl⟩) | (cases h; exact ⟨List.length_set, am_sz_set (by assumption) (by simp [am_cz])⟩)
  | invokestatic x =>
    simp only [am_one] at h
    (repeat' split at h) <;> first | (cases h; done) | (cases h; exact ⟨rfl, rfl⟩) | (cases h; exact ⟨List.length_set, am_sz_set (by assumption) (by simp [am_cz])⟩)
  | invokespecial x =>
    simp only [am_one] at h
    (repeat' split at h) <;> first | (cases h; done) | (cases h; exact ⟨rfl, rfl⟩) | (cases h; exact ⟨List.length_set, am_sz_set (by assumption) (by simp [am_cz])⟩)
  | _ => simp [am_one] at h
/-- how large the heap is, told by the machine -/
theorem am_bd {H : Heap} {locs : List Loc} {cells slots : Nat} {g : JFrame} (k : H.size ≤ s.heap.size + cells → W p l e R s m args below meth c H locs cells slots Q g) : W p l e R s m args below meth c H locs cells slots Q g := fun T hT X => k (by rw [← hT]; exact X.heapSize) T hT X
theorem am_lo {hp : am_H} {H : Heap} {locs : List Loc} (hP : va_P D am_cl (am_w B ra cA hp) H) (hS : va_S (fun q => B ≤ q) s.heap H locs) (hB : s.heap.size = B + n0) (h0 : n0 ≤ hp.length) : B + hp.length ≤ H.size := by
  rcases Nat.lt_or_ge n0 hp.length with h | h
  · have hlt : hp.length - 1 < hp.length := by omega
    have h1 := (hP (hp.length - 1) _ (am_w_at (List.getElem?_eq_getElem hlt))).lt
    have h2 : B + (hp.length - 1) < H.size := h1
    omega
  · have := hS.1
    omega
/-- where a new cell lies -/
theorem am_qq {hp : am_H} {H1 : Heap} {q : Nat} {ex : va_E} (hP : va_P D am_cl (am_w B ra cA hp ++ [(q, ex)]) H1) (hD : va_D (fun q => B ≤ q) (am_w B ra cA hp ++ [(q, ex)])) (hz : H1.size ≤ B + (hp.length + 1)) : q = B + hp.length := by
  have hat : (am_w B ra cA hp ++ [(q, ex)])[hp.length]? = some (q, ex) := by
    rw [List.getElem?_append_right (by rw [am_w_len]; exact Nat.le_refl _), am_w_len, Nat.sub_self]
    rfl
  have h1 : q < H1.size := (hP _ _ hat).lt
  have h2 : B ≤ q := hD.2 _ _ hat
  rcases Nat.lt_or_ge (q - B) hp.length with h | h
  · have hk : (am_w B ra cA hp ++ [(q, ex)])[q - B]? = some (B + (q - B), am_e B ra cA hp[q - B]) := by
      rw [List.getElem?_append_left (by rw [am_w_len]; exact h)]
      exact am_w_at (List.getElem?_eq_getElem h)
    have := hD.1 _ _ _ _ hk hat (show B + (q - B) = q by omega)
    omega
  · omega
theorem am_dfl (B : Nat) (ra : Nat → Nat) (t : FieldType) : am_v B ra (defaultValue t) = defaultValue t := by cases t <;> rfl
set_option maxHeartbeats 4000000 in
theorem am_o_new (x : Nat) (F : am_Fr D B ra cA E n0 d M p R s m args meth c) {nn : Nat} {C C1 : am_C} (hdg0 : decode (am_cc M) C.1 = .ok (.new x, nn)) (hn : am_ln (.new x) = 0 ∨ nn = am_ln (.new x)) (h : am_mk M (.new x) C.1 C.2.1 C.2.2.1 C.2.2.2 = some C1) (hn1 : C1.2.2.2.length ≤ n1) (hz1 : am_sz C1.2.2.2 ≤ z1) (kk : am_AW D B ra cA n0 n1 z1 M p l e R s m args below meth c Q C1) : am_AW D B ra cA n0 n1 z1 M p l e R s m args below meth c Q C := by
  obtain ⟨pc, ls, st, hp⟩ := C
  intro H locs lsA cells slots hP hS hl hc hs hnn
  obtain ⟨hx, hb, hml, hown, hts, hK, hro, hr, hlk, hini, hB, hR1, hR2, hok, hR3, hR4⟩ := F
  obtain rfl : nn = 3 := hn.resolve_left (by simp [am_ln])
  have hdg : decode (am_cc M) pc = .ok (.new x, 3) := hdg0
  simp only [am_mk] at h
  split at h
  · next ci _ hpl =>
    split at h
    · next fs hfs =>
     split at h
     · next hsm =>
      cases h
      obtain ⟨h1, h2⟩ := am_pl_ok hpl
      simp only [am_sd] at h2
      cases hq : am_cl[ci]? with
      | none => rw [hq] at h2; cases h2
      | some q =>
        cases hty : am_cy[ci]? with
        | none => rw [hq, hty] at h2; cases h2
        | some ty =>
          simp only [am_ws, hq] at h1
          simp only [am_new, hq, hty] at hfs
          cases hfs
          obtain ⟨hpt, hnm, hlay⟩ := am_cl_ty _ q ty hq hty
          have hcz : am_cz (.inr (ci, (List.range q.2.2).map (fun j => defaultValue (ty j)))) = q.2.2 := by simp [am_cz]
          have hz1' : am_sz hp + q.2.2 ≤ z1 := by
            have := hz1
            simp only [am_sz_app] at this
            rw [show am_sz [Sum.inr (ci, (List.range q.2.2).map (fun j => defaultValue (ty j)))] = q.2.2 by simp [am_sz, am_cz]] at this
            exact this
          have hn1' : hp.length + 1 ≤ n1 := by simpa using hn1
          have hcl : cells + n0 = hp.length := hc
          have hsl : slots + z1 ≤ R.slots + am_sz hp := hs
          refine va_new (ci := ci) (C := q.1) (T := q.2.1) (N := q.2.2) (fs := (List.range q.2.2).map (fun j => defaultValue (ty j))) hx hb hts hlay ty hpt hown (hts _ (h1 _ (by simp))) (hts _ (h1 _ (by simp))) (hts _ (h1 _ (by simp))) hK hP am_w_D hS (fun z hz => by omega) hq (fun j hj => ?_) (by omega) (by omega) hdg (fun a H1 hP1 hD1 hS1 => ?_)
          · simp [vp_V, hj]
          · refine am_bd (fun hbd => ?_)
            have ha : a = B + hp.length := am_qq hP1 hD1 (by omega)
            subst ha
            have e1 : am_w B ra cA hp ++ [(B + hp.length, Sum.inr (ci, (List.range q.2.2).map (fun j => defaultValue (ty j))))] = am_w B ra cA (hp ++ [.inr (ci, (List.range q.2.2).map (fun j => defaultValue (ty j)))]) := by
              rw [am_w_push]
              show _ = _ ++ [(B + hp.length, Sum.inr (ci, ((List.range q.2.2).map (fun j => defaultValue (ty j))).map (am_v B ra)))]
              rw [List.map_map]
              congr 5
              apply List.map_congr_left
              intro j _
              exact (am_dfl B ra (ty j)).symm
            rw [e1] at hP1
            have kk2 := kk H1 locs lsA (cells + 1) (slots + q.2.2) hP1 hS1 hl (by show _ = (hp ++ [_]).length; rw [List.length_append, List.length_singleton]; omega) (by show _ ≤ R.slots + am_sz (hp ++ [_]); rw [am_sz_app, show am_sz [Sum.inr (ci, (List.range q.2.2).map (fun j => defaultValue (ty j)))] = q.2.2 by simp [am_sz, am_cz]]; omega) hnn
            rw [List.map_cons, am_v_lo hsm] at kk2
            exact kk2
     · cases h
    · cases h
  · cases h

set_option maxHeartbeats 4000000 in
theorem am_o_newa_int (F : am_Fr D B ra cA E n0 d M p R s m args meth c) {nn : Nat} {C C1 : am_C} (hdg0 : decode (am_cc M) C.1 = .ok (.newarray .int, nn)) (hn : am_ln (.newarray .int) = 0 ∨ nn = am_ln (.newarray .int)) (h : am_mk M (.newarray .int) C.1 C.2.1 C.2.2.1 C.2.2.2 = some C1) (hn1 : C1.2.2.2.length ≤ n1) (hz1 : am_sz C1.2.2.2 ≤ z1) (kk : am_AW D B ra cA n0 n1 z1 M p l e R s m args below meth c Q C1) : am_AW D B ra cA n0 n1 z1 M p l e R s m args below meth c Q C := by
  obtain ⟨pc, ls, st, hp⟩ := C
  intro H locs lsA cells slots hP hS hl hc hs hnn
  obtain ⟨hx, hb, hml, hown, hts, hK, hro, hr, hlk, hini, hB, hR1, hR2, hok, hR3, hR4⟩ := F
  obtain rfl : nn = 2 := hn.resolve_left (by simp [am_ln])
  have hdg : decode (am_cc M) pc = .ok (.newarray .int, 2) := hdg0
  simp only [am_mk] at h
  split at h
  · next n r =>
    split at h
    · next hcnd =>
      obtain ⟨hn0, hnl, hsm⟩ := hcnd
      simp only [am_na0] at h
      cases h
      have hn1' : hp.length + 1 ≤ n1 := by simpa using hn1
      have hz1' : am_sz hp + n.toNatClampNeg ≤ z1 := by
        have := hz1
        simp only [am_sz_app] at this
        rw [show am_sz [Sum.inl (0, n.toNatClampNeg, .inl (fun _ => 0))] = n.toNatClampNeg by simp [am_sz, am_cz]] at this
        exact this
      have hcl : cells + n0 = hp.length := hc
      have hsl : slots + z1 ≤ R.slots + am_sz hp := hs
      refine va_newa (atype := .int) (ty := .int) (N' := n.toNatClampNeg) (a0 := (n.toNatClampNeg, .inl (fun _ => 0))) hx hb (hts _ am_acI) rfl hK hP am_w_D hS (fun z hz => by omega) (fun _ => rfl) hn0 rfl (by show n.toNatClampNeg * 4 ≤ _; omega) (by omega) (by omega) hdg (fun a cN H1 hK1 hP1 hD1 hS1 => ?_)
      refine am_bd (fun hbd => ?_)
      have ha : a = B + hp.length := am_qq hP1 hD1 (by omega)
      subst ha
      have hcN : cN = cA 0 := by
        have g1 : s.vm.findClass ("[" ++ (FieldType.int).toString) = some cN := (hK1.2 4 (cN, .int) rfl).2
        have g2 : s.vm.findClass ("[" ++ (FieldType.int).toString) = some (cA 0) := (hK.2 0 (cA 0, .int) rfl).2
        exact Option.some.inj (g1.symm.trans g2)
      subst hcN
      have e1 : am_w B ra cA hp ++ [(B + hp.length, Sum.inl (cA 0, n.toNatClampNeg, .inl (fun _ => 0)))] = am_w B ra cA (hp ++ [.inl (0, n.toNatClampNeg, .inl (fun _ => 0))]) := by
        rw [am_w_push]
        rfl
      rw [e1] at hP1
      have kk2 := kk H1 locs lsA (cells + 1) (slots + n.toNatClampNeg) hP1 hS1 hl (by show _ = (hp ++ [_]).length; rw [List.length_append, List.length_singleton]; omega) (by show _ ≤ R.slots + am_sz (hp ++ [_]); rw [am_sz_app, show am_sz [Sum.inl (0, n.toNatClampNeg, .inl (fun _ => 0))] = n.toNatClampNeg by simp [am_sz, am_cz]]; omega) hnn
      rw [List.map_cons, am_v_lo hsm] at kk2
      exact kk2
    · cases h
  · cases h
set_option maxHeartbeats 4000000 in
theorem am_o_newa_long (F : am_Fr D B ra cA E n0 d M p R s m args meth c) {nn : Nat} {C C1 : am_C} (hdg0 : decode (am_cc M) C.1 = .ok (.newarray .long, nn)) (hn : am_ln (.newarray .long) = 0 ∨ nn = am_ln (.newarray .long)) (h : am_mk M (.newarray .long) C.1 C.2.1 C.2.2.1 C.2.2.2 = some C1) (hn1 : C1.2.2.2.length ≤ n1) (hz1 : am_sz C1.2.2.2 ≤ z1) (kk : am_AW D B ra cA n0 n1 z1 M p l e R s m args below meth c Q C1) : am_AW D B ra cA n0 n1 z1 M p l e R s m args below meth c Q C := by
  obtain ⟨pc, ls, st, hp⟩ := C
  intro H locs lsA cells slots hP hS hl hc hs hnn
  obtain ⟨hx, hb, hml, hown, hts, hK, hro, hr, hlk, hini, hB, hR1, hR2, hok, hR3, hR4⟩ := F
  obtain rfl : nn = 2 := hn.resolve_left (by simp [am_ln])
  have hdg : decode (am_cc M) pc = .ok (.newarray .long, 2) := hdg0
  simp only [am_mk] at h
  split at h
  · next n r =>
    split at h
    · next hcnd =>
      obtain ⟨hn0, hnl, hsm⟩ := hcnd
      simp only [am_na0] at h
      cases h
      have hn1' : hp.length + 1 ≤ n1 := by simpa using hn1
      have hz1' : am_sz hp + n.toNatClampNeg ≤ z1 := by
        have := hz1
        simp only [am_sz_app] at this
        rw [show am_sz [Sum.inl (1, n.toNatClampNeg, .inr (.inl (fun _ => 0)))] = n.toNatClampNeg by simp [am_sz, am_cz]] at this
        exact this
      have hcl : cells + n0 = hp.length := hc
      have hsl : slots + z1 ≤ R.slots + am_sz hp := hs
      refine va_newa (atype := .long) (ty := .long) (N' := n.toNatClampNeg) (a0 := (n.toNatClampNeg, .inr (.inl (fun _ => 0)))) hx hb (hts _ am_acJ) rfl hK hP am_w_D hS (fun z hz => by omega) (fun _ => rfl) hn0 rfl (by show n.toNatClampNeg * 8 ≤ _; omega) (by omega) (by omega) hdg (fun a cN H1 hK1 hP1 hD1 hS1 => ?_)
      refine am_bd (fun hbd => ?_)
      have ha : a = B + hp.length := am_qq hP1 hD1 (by omega)
      subst ha
      have hcN : cN = cA 1 := by
        have g1 : s.vm.findClass ("[" ++ (FieldType.long).toString) = some cN := (hK1.2 4 (cN, .long) rfl).2
        have g2 : s.vm.findClass ("[" ++ (FieldType.long).toString) = some (cA 1) := (hK.2 1 (cA 1, .long) rfl).2
        exact Option.some.inj (g1.symm.trans g2)
      subst hcN
      have e1 : am_w B ra cA hp ++ [(B + hp.length, Sum.inl (cA 1, n.toNatClampNeg, .inr (.inl (fun _ => 0))))] = am_w B ra cA (hp ++ [.inl (1, n.toNatClampNeg, .inr (.inl (fun _ => 0)))]) := by
        rw [am_w_push]
        rfl
      rw [e1] at hP1
      have kk2 := kk H1 locs lsA (cells + 1) (slots + n.toNatClampNeg) hP1 hS1 hl (by show _ = (hp ++ [_]).length; rw [List.length_append, List.length_singleton]; omega) (by show _ ≤ R.slots + am_sz (hp ++ [_]); rw [am_sz_app, show am_sz [Sum.inl (1, n.toNatClampNeg, .inr (.inl (fun _ => 0)))] = n.toNatClampNeg by simp [am_sz, am_cz]]; omega) hnn
      rw [List.map_cons, am_v_lo hsm] at kk2
      exact kk2
    · cases h
  · cases h
set_option maxHeartbeats 4000000 in
theorem am_o_newa_char (F : am_Fr D B ra cA E n0 d M p R s m args meth c) {nn : Nat} {C C1 : am_C} (hdg0 : decode (am_cc M) C.1 = .ok (.newarray .char, nn)) (hn : am_ln (.newarray .char) = 0 ∨ nn = am_ln (.newarray .char)) (h : am_mk M (.newarray .char) C.1 C.2.1 C.2.2.1 C.2.2.2 = some C1) (hn1 : C1.2.2.2.length ≤ n1) (hz1 : am_sz C1.2.2.2 ≤ z1) (kk : am_AW D B ra cA n0 n1 z1 M p l e R s m args below meth c Q C1) : am_AW D B ra cA n0 n1 z1 M p l e R s m args below meth c Q C := by
  obtain ⟨pc, ls, st, hp⟩ := C
  intro H locs lsA cells slots hP hS hl hc hs hnn
  obtain ⟨hx, hb, hml, hown, hts, hK, hro, hr, hlk, hini, hB, hR1, hR2, hok, hR3, hR4⟩ := F
  obtain rfl : nn = 2 := hn.resolve_left (by simp [am_ln])
  have hdg : decode (am_cc M) pc = .ok (.newarray .char, 2) := hdg0
  simp only [am_mk] at h
  split at h
  · next n r =>
    split at h
    · next hcnd =>
      obtain ⟨hn0, hnl, hsm⟩ := hcnd
      simp only [am_na0] at h
      cases h
      have hn1' : hp.length + 1 ≤ n1 := by simpa using hn1
      have hz1' : am_sz hp + n.toNatClampNeg ≤ z1 := by
        have := hz1
        simp only [am_sz_app] at this
        rw [show am_sz [Sum.inl (2, n.toNatClampNeg, .inl (fun _ => 0))] = n.toNatClampNeg by simp [am_sz, am_cz]] at this
        exact this
      have hcl : cells + n0 = hp.length := hc
      have hsl : slots + z1 ≤ R.slots + am_sz hp := hs
      refine va_newa (atype := .char) (ty := .char) (N' := n.toNatClampNeg) (a0 := (n.toNatClampNeg, .inl (fun _ => 0))) hx hb (hts _ am_acC) rfl hK hP am_w_D hS (fun z hz => by omega) (fun _ => rfl) hn0 rfl (by show n.toNatClampNeg * 2 ≤ _; omega) (by omega) (by omega) hdg (fun a cN H1 hK1 hP1 hD1 hS1 => ?_)
      refine am_bd (fun hbd => ?_)
      have ha : a = B + hp.length := am_qq hP1 hD1 (by omega)
      subst ha
      have hcN : cN = cA 2 := by
        have g1 : s.vm.findClass ("[" ++ (FieldType.char).toString) = some cN := (hK1.2 4 (cN, .char) rfl).2
        have g2 : s.vm.findClass ("[" ++ (FieldType.char).toString) = some (cA 2) := (hK.2 2 (cA 2, .char) rfl).2
        exact Option.some.inj (g1.symm.trans g2)
      subst hcN
      have e1 : am_w B ra cA hp ++ [(B + hp.length, Sum.inl (cA 2, n.toNatClampNeg, .inl (fun _ => 0)))] = am_w B ra cA (hp ++ [.inl (2, n.toNatClampNeg, .inl (fun _ => 0))]) := by
        rw [am_w_push]
        rfl
      rw [e1] at hP1
      have kk2 := kk H1 locs lsA (cells + 1) (slots + n.toNatClampNeg) hP1 hS1 hl (by show _ = (hp ++ [_]).length; rw [List.length_append, List.length_singleton]; omega) (by show _ ≤ R.slots + am_sz (hp ++ [_]); rw [am_sz_app, show am_sz [Sum.inl (2, n.toNatClampNeg, .inl (fun _ => 0))] = n.toNatClampNeg by simp [am_sz, am_cz]]; omega) hnn
      rw [List.map_cons, am_v_lo hsm] at kk2
      exact kk2
    · cases h
  · cases h
end AMQ
end
section
/-! new int[n][k]: a row of rows. (The rounds' library bears no law of this instruction: it is walked here, over the library's words on the single steps.) -/
/-- the outer row when i of its rows are made -/
def am_oc (c : ClassId) (N h i : Nat) : Cell := arrV c N (fun j => va_rf (if j < i then some (h + 1 + j) else none))
def am_ic (comp : ClassId) (K : Nat) : Cell := arrV comp K (fun _ => .int 0)
def am_fs (T : State) (c comp : ClassId) (N K : Nat) : Nat → State
  | 0 => T.pushCell (am_oc c N T.heap.size 0)
  | i + 1 => ((am_fs T c comp N K i).pushCell (am_ic comp K)).setCell T.heap.size (am_oc c N T.heap.size (i + 1))
theorem am_oc_next (c : ClassId) (N h i : Nat) : (am_oc c N h i).setSlot i (.ref (h + 1 + i)) = am_oc c N h (i + 1) := by
  unfold am_oc
  rw [arrV_store]
  refine congrArg (arrV c N) (funext fun j => ?_)
  unfold updV
  by_cases e : j = i
  · subst e
    rw [if_pos rfl, if_pos (Nat.lt_succ_self _)]
    rfl
  · rw [if_neg e]
    show va_rf (if j < i then some (h + 1 + j) else none) = _
    by_cases h1 : j < i
    · rw [if_pos h1, if_pos (Nat.lt_succ_of_lt h1)]
    · rw [if_neg h1, if_neg (by omega)]
section AMF
variable (T : State) (c comp : ClassId) (N K : Nat)
theorem am_fs_at : ∀ i, (am_fs T c comp N K i).heap.size = T.heap.size + 1 + i ∧ (am_fs T c comp N K i).heap[T.heap.size]? = some (am_oc c N T.heap.size i) ∧ (am_fs T c comp N K i).vm = T.vm ∧ (am_fs T c comp N K i).slotsUsed = T.slotsUsed + N + i * K
  | 0 => ⟨by simp [am_fs], by simp [am_fs], rfl, by simp [am_fs, am_oc, arrV_size]⟩
  | i + 1 => by
    obtain ⟨a, b, d, u⟩ := am_fs_at i
    have hlt : T.heap.size < (am_fs T c comp N K i).heap.size := by omega
    have hb' : ((am_fs T c comp N K i).pushCell (am_ic comp K)).heap[T.heap.size]? = some (am_oc c N T.heap.size i) := by rw [State.heap_pushCell_of_lt (h := hlt)]; exact b
    refine ⟨?_, State.heap_setCell_self hb', by simp [am_fs, d], ?_⟩
    · simp [am_fs, State.setCell, a]; omega
    · simp [am_fs, u, am_ic, arrV_size, Nat.succ_mul]; omega
theorem am_fs_top (f : JFrame) : ∀ i, am_fs (T.setTop f) c comp N K i = (am_fs T c comp N K i).setTop f
  | 0 => rfl
  | i + 1 => by simp only [am_fs, am_fs_top f i, State.heap_setTop, State.pushCell_setTop, State.setCell_setTop]
theorem am_fs_old {a : Addr} (ha : a < T.heap.size) : ∀ i, (am_fs T c comp N K i).heap[a]? = T.heap[a]?
  | 0 => State.heap_pushCell_of_lt _ _ ha
  | i + 1 => by
    have f1 := (am_fs_at T c comp N K i).1
    have hlt : a < (am_fs T c comp N K i).heap.size := Nat.lt_of_lt_of_le ha (by rw [f1]; omega)
    show (((am_fs T c comp N K i).pushCell (am_ic comp K)).setCell T.heap.size _).heap[a]? = _
    rw [State.heap_setCell_other (Nat.ne_of_gt ha), State.heap_pushCell_of_lt (h := hlt)]
    exact am_fs_old ha i
theorem am_fs_in : ∀ i j, j < i → (am_fs T c comp N K i).heap[T.heap.size + 1 + j]? = some (am_ic comp K)
  | 0, _, h => absurd h (Nat.not_lt_zero _)
  | i + 1, j, h => by
    have f1 := (am_fs_at T c comp N K i).1
    show (((am_fs T c comp N K i).pushCell (am_ic comp K)).setCell T.heap.size _).heap[T.heap.size + 1 + j]? = _
    rw [State.heap_setCell_other (show T.heap.size ≠ T.heap.size + 1 + j by omega)]
    rcases Nat.lt_or_ge j i with hj | hj
    · have hlt : T.heap.size + 1 + j < (am_fs T c comp N K i).heap.size := by rw [f1]; omega
      rw [State.heap_pushCell_of_lt (h := hlt)]
      exact am_fs_in i j hj
    · obtain rfl : j = i := by omega
      rw [← f1]
      exact State.heap_pushCell_size _ _
end AMF
section AMG
variable {E : CtlPost} {e : Env} {d : Bool} {acts : List Action} {s : State}
theorem am_wpA {c comp : ClassId} {k : Class} {type : FieldType} {len : Nat} {init : Value} (hk : s.vm.classes[c]? = some k) (hkind : k.kind = .array comp type) (hlimit : ¬ len > e.platform.arrayLengthLimit) (hheap : ¬ len * componentBytes type > e.platform.maxHeapBytes) (hfit : fits type init = true) (hdef : init.isDefault = true) {Q : Addr → Pre}
    (h1 : s.heap.size < e.platform.maxCells) (h2 : s.slotsUsed + len ≤ e.platform.maxSlots) (hq : Q s.heap.size d acts (s.pushCell (arrV c len (fun _ => init)))) : wp (Jvm.newArray c len init) Q E e d acts s := by
  rw [← arrV_new] at hq
  have hfits : ∀ i v, (Array.replicate len init)[i]? = some v → s.fitsSlot c .none i v = true := by
    intro i v hv
    rw [Array.getElem?_replicate] at hv
    split at hv
    · cases hv
      simp [State.fitsSlot, State.slotType?, hk, hkind, hfit]
    · cases hv
  have hall : ((Array.replicate len init).all (·.isDefault)) = true := by
    rw [Array.all_replicate]
    split <;> simp [hdef]
  have hda : allocActs (Array.replicate len init) s.heap.size acts = acts := by
    unfold allocActs
    rw [if_pos hall]
  simp only [Jvm.newArray, Jvm.arrayFits, wp_bind', W.ask, W.ite, hlimit, if_false, wp_pure', W.theClass, hk, hkind, hheap, W.alloc, W.stop, Option.some.injEq, exists_eq_left', Array.size_replicate, hda]
  rw [if_neg (by omega)]
  exact ⟨h1, h2, hfits, hq⟩
theorem am_wp1 {comp cc : ClassId} {kc : Class} {m : Int32} (hkc : s.vm.classes[comp]? = some kc) (hkindc : kc.kind = .array cc .int) (hm : ¬ m < 0) (hl2 : ¬ m.toNatClampNeg > e.platform.arrayLengthLimit) (hh2 : ¬ m.toNatClampNeg * componentBytes .int > e.platform.maxHeapBytes)
    (h1 : s.heap.size < e.platform.maxCells) (h2 : s.slotsUsed + m.toNatClampNeg ≤ e.platform.maxSlots) {Q : Addr → Pre} (hq : Q s.heap.size d acts (s.pushCell (am_ic comp m.toNatClampNeg))) : wp (multianewarray.make comp [m]) Q E e d acts s := by
  rw [multianewarray.make]
  simp only [wp_bind', W.ite, hm, if_false, wp_pure', W.theClass, hkc, hkindc, Option.some.injEq, exists_eq_left']
  exact am_wpA hkc hkindc hl2 hh2 rfl rfl h1 h2 hq
theorem am_wp2 {c comp cc : ClassId} {k kc : Class} {n m : Int32} (hk : s.vm.classes[c]? = some k) (hkind : k.kind = .array comp (.array .int)) (hkc : s.vm.classes[comp]? = some kc) (hkindc : kc.kind = .array cc .int) (hn : ¬ n < 0) (hm : ¬ m < 0)
    (hl1 : ¬ n.toNatClampNeg > e.platform.arrayLengthLimit) (hh1 : ¬ n.toNatClampNeg * componentBytes (.array .int) > e.platform.maxHeapBytes) (hl2 : ¬ m.toNatClampNeg > e.platform.arrayLengthLimit) (hh2 : ¬ m.toNatClampNeg * componentBytes .int > e.platform.maxHeapBytes)
    (hc : s.heap.size + 1 + n.toNatClampNeg ≤ e.platform.maxCells) (hs : s.slotsUsed + n.toNatClampNeg + n.toNatClampNeg * m.toNatClampNeg ≤ e.platform.maxSlots) {Q : Addr → Pre} (hq : ∀ d' acts', Q s.heap.size d' acts' (am_fs s c comp n.toNatClampNeg m.toNatClampNeg n.toNatClampNeg)) : wp (multianewarray.make c [n, m]) Q E e d acts s := by
  have hfind : ([m].find? (· < 0)) = none := by simp [hm]
  have hmul0 := Nat.zero_le (n.toNatClampNeg * m.toNatClampNeg)
  rw [multianewarray.make]
  simp only [wp_bind', W.ite, hn, if_false, wp_pure', W.theClass, hk, hkind, Option.some.injEq, exists_eq_left']
  refine am_wpA hk hkind hl1 hh1 rfl rfl (by omega) (by omega) ?_
  simp only [hfind]
  rw [ite_self, wp_bind', Std.Legacy.Range.forIn_eq_forIn_range']
  have hsz : ([:n.toNatClampNeg] : Std.Legacy.Range).size = n.toNatClampNeg := by simp [Std.Legacy.Range.size]
  rw [hsz]
  show wp (forIn (List.range' 0 n.toNatClampNeg 1) PUnit.unit _) _ E e d acts _
  refine wp_forIn_inv (fun rest s' => ∃ i, i ≤ n.toNatClampNeg ∧ rest = List.range' i (n.toNatClampNeg - i) ∧ s' = am_fs s c comp n.toNatClampNeg m.toNatClampNeg i) _ _ ⟨0, Nat.zero_le _, rfl, ?_⟩ ?_ ?_
  · show _ = s.pushCell (am_oc c n.toNatClampNeg s.heap.size 0)
    unfold am_oc
    simp [va_rf]
  · rintro x rest s' d' acts' Q' ⟨i, hi, hl, rfl⟩ hnext
    have hlt : i < n.toNatClampNeg := by
      rcases Nat.lt_or_ge i n.toNatClampNeg with h | h
      · exact h
      · rw [show n.toNatClampNeg - i = 0 from by omega] at hl
        simp at hl
    obtain ⟨rfl, hrest⟩ : x = i ∧ rest = List.range' (i + 1) (n.toNatClampNeg - (i + 1)) := by
      rw [show n.toNatClampNeg - i = (n.toNatClampNeg - (i + 1)) + 1 from by omega, List.range'_succ] at hl
      exact ⟨(List.cons.inj hl).1, (List.cons.inj hl).2⟩
    obtain ⟨f1, f2, f3, f4⟩ := am_fs_at s c comp n.toNatClampNeg m.toNatClampNeg x
    have hmul : x * m.toNatClampNeg + m.toNatClampNeg ≤ n.toNatClampNeg * m.toNatClampNeg := by
      have := Nat.mul_le_mul_right m.toNatClampNeg (show x + 1 ≤ n.toNatClampNeg from hlt)
      rw [Nat.succ_mul] at this
      exact this
    simp only [wp_bind']
    refine am_wp1 (by rw [f3]; exact hkc) hkindc hm hl2 hh2 (by rw [f1]; omega) (by rw [f4]; omega) ?_
    have hlt0 : s.heap.size < (am_fs s c comp n.toNatClampNeg m.toNatClampNeg x).heap.size := by rw [f1]; omega
    simp only [wp_bind', W.writeLoc, wp_pure']
    refine ⟨am_oc c n.toNatClampNeg s.heap.size x, by rw [State.heap_pushCell_of_lt (h := hlt0)]; exact f2, (fun z => by cases z), by unfold am_oc; rw [arrV_size]; exact hlt, ?_, hnext _ _ _ ⟨x + 1, hlt, hrest, ?_⟩⟩
    · show State.fitsSlot _ c .none x _ = true
      simp [State.fitsSlot, State.slotType?, f3, hk, hkind, fits]
    · rw [f1, am_oc_next]
      rfl
  · rintro s' d' acts' ⟨i, hi, hl, rfl⟩
    obtain rfl : i = n.toNatClampNeg := by
      rcases Nat.lt_or_ge i n.toNatClampNeg with h | h
      · rw [show n.toNatClampNeg - i = (n.toNatClampNeg - (i + 1)) + 1 from by omega, List.range'_succ] at hl
        cases hl
      · omega
    simp only [wp_pure']
    exact hq _ _
end AMG
section AMZ
variable {D : va_G} {B : Nat} {ra : Nat → Nat} {cA : Nat → ClassId} {E : am_Env} {n0 n1 z1 d : Nat} {M N : am_M} {p : Program} {l : Launch} {e : Env} {R : Room} {s : State} {m : MethodId} {args : Array Value} {below : List Frame} {meth : Method} {c : Code} {Q : State → Prop}
theorem am_fs_st {T : State} {locs : List Loc} {cells slots : Nat} (X : Stand p l e R s m args below meth c T locs cells slots) (cG comp : ClassId) (N K : Nat) : ∀ i, Stand p l e R s m args below meth c (am_fs T cG comp N K i) (locs ++ (List.range i).map fun j => ⟨T.heap.size, j⟩) (cells + 1 + i) (slots + N + i * K)
  | 0 => by
    have h := X.pushed (am_oc cG N T.heap.size 0)
    rw [show (am_oc cG N T.heap.size 0).slots.size = N from arrV_size _ _ _] at h
    simpa [am_fs] using h
  | i + 1 => by
    have Xi := am_fs_st X cG comp N K i
    obtain ⟨f1, f2, f3, f4⟩ := am_fs_at T cG comp N K i
    have hlt0 : T.heap.size < (am_fs T cG comp N K i).heap.size := by rw [f1]; omega
    have hcell : ((am_fs T cG comp N K i).pushCell (am_ic comp K)).heap[T.heap.size]? = some (am_oc cG N T.heap.size i) := by rw [State.heap_pushCell_of_lt (h := hlt0)]; exact f2
    have h := (Xi.pushed (am_ic comp K)).stored hcell i (.ref (T.heap.size + 1 + i))
    rw [am_oc_next, show (am_ic comp K).slots.size = K from arrV_size _ _ _] at h
    have e2 : (locs ++ (List.range (i + 1)).map fun j => (⟨T.heap.size, j⟩ : Loc)) = (locs ++ (List.range i).map fun j => (⟨T.heap.size, j⟩ : Loc)) ++ [⟨T.heap.size, i⟩] := by simp [List.range_succ, List.append_assoc]
    have e3 : slots + N + (i + 1) * K = slots + N + i * K + K := by rw [Nat.succ_mul]; omega
    rw [e2, e3]
    exact h
theorem am_mna {T : State} {locs : List Loc} {cells slots : Nat} (X : Stand p l e R s m args below meth c T locs cells slots) (hexec : p.tables.exec = Jvm.exec) {own : String} {index : Nat} (hown : s.vm.findClass own = some m.cls) (hclink : (Cond.classLink own index ("[" ++ (FieldType.array .int).toString)).before args s = true)
    (hover : am_AO s) (harr : (Cond.arrayClass .int).before args s = true) {g : JFrame} (hg : g.method = m) (hdg : decode c.code g.pc = .ok (.multianewarray index 2, 4)) {n k : Int32} {rest : List Value} (hstack : g.stack = .int k :: .int n :: rest) (hn : ¬ n < 0) (hk : ¬ k < 0) (hb1 : n.toNatClampNeg ≤ 1000) (hb2 : k.toNatClampNeg ≤ 1000)
    (hcells : cells + (1 + n.toNatClampNeg) ≤ R.cells) (hslots : slots + (n.toNatClampNeg + n.toNatClampNeg * k.toNatClampNeg) ≤ R.slots) :
    ∃ (vm₁ : Vm) (cG comp : ClassId), s.vm.findClass ("[" ++ (FieldType.array .int).toString) = some cG ∧ s.vm.findClass (FieldType.array .int).toString = some comp ∧ Stand p l e R s m args below meth c (am_fs (T.setVm vm₁) cG comp n.toNatClampNeg k.toNatClampNeg n.toNatClampNeg) (locs ++ (List.range n.toNatClampNeg).map fun j => ⟨T.heap.size, j⟩) (cells + 1 + n.toNatClampNeg) (slots + n.toNatClampNeg + n.toNatClampNeg * k.toNatClampNeg) ∧
      ∀ target, Steps p.tables e below ((am_fs (T.setVm vm₁) cG comp n.toNatClampNeg k.toNatClampNeg n.toNatClampNeg).setTop { g with pc := g.pc + 4, stack := .ref T.heap.size :: rest }) target → Steps p.tables e below (T.setTop g) target := by
  subst hg
  have hpl : e.platform.magicAccessors = ({} : Platform).magicAccessors := by rw [X.admits.platform]
  obtain ⟨comp, cG, kA, hcomp, hkA, hkindA, hnameA⟩ := hover
  obtain ⟨comp', kC, cc, hcomp', hkC, hkindC⟩ := Cond.arrayClass_spec (args := args) (first := s) (o := none) (s := s) (idx := []) harr
  obtain rfl : comp' = comp := Option.some.inj (hcomp'.symm.trans hcomp)
  obtain ⟨c0, hfc0, hcl⟩ := Cond.classLink_spec hown hclink e.platform hpl
  cases hnameA.symm.trans hfc0
  obtain ⟨hg₁, hwarm₁, hready₁⟩ := State.classEntry (e := e) X.warmed hcl
  generalize T.vm.noted g.method.cls index (.cls cG) = vm₁ at hg₁ hwarm₁ hready₁
  have hal : s.vm.Alike vm₁ := hwarm₁.alike
  obtain ⟨kA₁, hkA₁, heA⟩ := hal.2.2 _ _ hkA
  obtain ⟨kC₁, hkC₁, heC⟩ := hal.2.2 _ _ hkC
  have hkindA₁ : kA₁.kind = .array comp' (.array .int) := by rw [heA]; exact hkindA
  have hkindC₁ : kC₁.kind = .array cc .int := by rw [heC]; exact hkindC
  have X₁ := X.noted hwarm₁
  obtain ⟨hr1, hr2⟩ := X.roomAbove hcells hslots
  refine ⟨vm₁, cG, comp', hnameA, hcomp, am_fs_st X₁ cG comp' _ _ _, fun target hrest => ?_⟩
  have hl1 : ¬ n.toNatClampNeg > e.platform.arrayLengthLimit := by rw [Launch.admits_arrayLengthLimit X.admits]; omega
  have hh1 : ¬ n.toNatClampNeg * componentBytes (.array .int) > e.platform.maxHeapBytes := by
    rw [Launch.admits_maxHeapBytes X.admits]
    show ¬ n.toNatClampNeg * 4 > 536870912
    omega
  have hl2 : ¬ k.toNatClampNeg > e.platform.arrayLengthLimit := by rw [Launch.admits_arrayLengthLimit X.admits]; omega
  have hh2 : ¬ k.toNatClampNeg * componentBytes .int > e.platform.maxHeapBytes := by
    rw [Launch.admits_maxHeapBytes X.admits]
    show ¬ k.toNatClampNeg * 4 > 536870912
    omega
  jvm_step X.here [hexec, hdg]
  simp only [multianewarray.sem, wp_bind', W.resolveClassAt_links (State.method?_setTop g X.here.top) hg₁]
  rw [W.popN, if_neg (by decide)]
  refine ⟨g, State.topJava?_setTop' (s := T.setVm vm₁) g X.here.top, [.int n, .int k], rest, rfl, hstack, ?_⟩
  simp only [List.mapM_cons, List.mapM_nil, wp_bind', wp_pure']
  refine am_wp2 (k := kA₁) (kc := kC₁) (comp := comp') (cc := cc) hkA₁ hkindA₁ hkC₁ hkindC₁ hn hk hl1 hh1 hl2 hh2 (by show T.heap.size + 1 + _ ≤ _; omega) (by show T.slotsUsed + _ + _ ≤ _; omega) (fun d' acts' => ?_)
  have XF := am_fs_st X₁ cG comp' n.toNatClampNeg k.toNatClampNeg n.toNatClampNeg
  have eS : ((T.setTop g).setVm vm₁).setTop { g with stack := rest } = (T.setVm vm₁).setTop { g with stack := rest } := by
    show ((T.setVm vm₁).setTop g).setTop _ = _
    rw [State.setTop_setTop]
  rw [eS, am_fs_top]
  simp only [wp_bind', W.mark, W.pushRef, State.topJava?_setTop' _ XF.here.top, Option.some.injEq, exists_eq_left', State.setTop_setTop, State.heap_setTop]
  intro acts
  simp [jvm, XF.here.top]
  exact hrest
set_option maxHeartbeats 4000000 in
theorem am_o_mna (x k : Nat) (F : am_Fr D B ra cA E n0 d M p R s m args meth c) {nn : Nat} {C C1 : am_C} (hdg0 : decode (am_cc M) C.1 = .ok (.multianewarray x k, nn)) (hn : am_ln (.multianewarray x k) = 0 ∨ nn = am_ln (.multianewarray x k)) (h : am_mk M (.multianewarray x k) C.1 C.2.1 C.2.2.1 C.2.2.2 = some C1) (h0 : n0 ≤ C.2.2.2.length) (hn1 : C1.2.2.2.length ≤ n1) (hz1 : am_sz C1.2.2.2 ≤ z1) (kk : am_AW D B ra cA n0 n1 z1 M p l e R s m args below meth c Q C1) : am_AW D B ra cA n0 n1 z1 M p l e R s m args below meth c Q C := by
  obtain ⟨pc, ls, st, hp⟩ := C
  intro H locs lsA cells slots hP hS hl hc hs hnn
  obtain ⟨hx, hb, hml, hown, hts, hK, hro, hr, hlk, hini, hB, hR1, hR2, hok, hR3, hR4⟩ := F
  obtain rfl : nn = 4 := hn.resolve_left (by simp [am_ln])
  unfold am_mk at h
  split at h
  · next hi => cases hi
  · next hi => cases hi
  · next x' hi =>
    cases hi
    have hdg : decode (am_cc M) pc = .ok (.multianewarray x 2, 4) := hdg0
    split at h
    · next j n r _ _ hst hpl =>
      split at h
      · next hcnd =>
        obtain ⟨c1, c2, c3, c4, c5⟩ := hcnd
        cases h
        have hst : st = .int j :: .int n :: r := hst
        subst hst
        have hP : va_P D am_cl (am_w B ra cA hp) H := hP
        have hcl : cells + n0 = hp.length := hc
        have hsl : slots + z1 ≤ R.slots + am_sz hp := hs
        obtain ⟨h1, -⟩ := am_pl_ok hpl
        simp only [am_ws] at h1
        have hszr : am_sz (List.replicate n.toNatClampNeg (Sum.inl (0, j.toNatClampNeg, .inl (fun _ => 0)) : va_E)) = n.toNatClampNeg * j.toNatClampNeg := by simp [am_sz, am_cz]
        have hn1' : hp.length + 1 + n.toNatClampNeg ≤ n1 := by
          have := hn1
          simp at this
          omega
        have hz1' : am_sz hp + n.toNatClampNeg + n.toNatClampNeg * j.toNatClampNeg ≤ z1 := by
          have := hz1
          simp only [am_sz_app, hszr] at this
          simpa [am_sz, am_cz] using this
        intro T hT X
        have hTz : T.heap.size = B + hp.length := by
          have q1 := am_lo hP hS hB h0
          have q2 := X.heapSize
          rw [hT] at q2 ⊢
          have h0' : n0 ≤ hp.length := h0
          omega
        obtain ⟨vm₁, cG, comp, fG, fC, X', step⟩ := am_mna X hx hown (hts _ (h1 _ List.mem_cons_self)) hro.2.2.2.2.2.2.2 (hts _ am_acI) (g := F0 m pc lsA ((.int j :: .int n :: r).map (am_v B ra))) rfl (by rw [hb]; exact hdg) rfl c1 c2 c3 c4 (by omega) (by omega)
        have hTh : (T.setVm vm₁).heap = T.heap := rfl
        obtain ⟨f1, f2, -, -⟩ := am_fs_at (T.setVm vm₁) cG comp n.toNatClampNeg j.toNatClampNeg n.toNatClampNeg
        have hG : cG = cA 3 := by
          have g2 : s.vm.findClass ("[" ++ (FieldType.array .int).toString) = some (cA 3) := (hK.2 3 (cA 3, .array .int) rfl).2
          exact Option.some.inj (fG.symm.trans g2)
        have hI : comp = cA 0 := by
          have g2 : s.vm.findClass ("[" ++ (FieldType.int).toString) = some (cA 0) := (hK.2 0 (cA 0, .int) rfl).2
          exact Option.some.inj (fC.symm.trans g2)
        subst hG
        subst hI
        generalize hF : am_fs (T.setVm vm₁) (cA 3) (cA 0) n.toNatClampNeg j.toNatClampNeg n.toNatClampNeg = F at X' step f1 f2
        have hold : ∀ q : Nat, q < H.size → F.heap[q]? = H[q]? := fun q hq => by
          rw [← hF, am_fs_old (T.setVm vm₁) (cA 3) (cA 0) n.toNatClampNeg j.toNatClampNeg (a := q) (by rw [hTh, hT]; exact hq), hTh, hT]
        have hrow : ∀ i : Nat, i < n.toNatClampNeg → F.heap[B + hp.length + 1 + i]? = some (am_ic (cA 0) j.toNatClampNeg) := fun i hi => by
          have := am_fs_in (T.setVm vm₁) (cA 3) (cA 0) n.toNatClampNeg j.toNatClampNeg n.toNatClampNeg i hi
          rw [hF, hTh, hTz] at this
          exact this
        rw [hTh, hTz] at f2
        have hHz : H.size = B + hp.length := by rw [← hT]; exact hTz
        have hP1 : va_P D am_cl (am_w B ra cA ((hp ++ [.inl (3, n.toNatClampNeg, .inr (.inr (.inr (.inr (fun i => if i < n.toNatClampNeg then some (hp.length + 1 + i) else none)))))]) ++ List.replicate n.toNatClampNeg (.inl (0, j.toNatClampNeg, .inl (fun _ => 0))))) F.heap := by
          intro i q hq
          rw [am_w_get] at hq
          rcases Nat.lt_or_ge i hp.length with hi | hi
          · rw [List.append_assoc, List.getElem?_append_left hi] at hq
            have h5 := am_w_get (B := B) (ra := ra) (cA := cA) (hp := hp) i
            rw [hq] at h5
            have h6 := hP i q h5
            exact h6.kept (hold q.1 h6.lt)
          · rcases Nat.lt_or_ge i (hp.length + 1) with hi2 | hi2
            · obtain rfl : i = hp.length := by omega
              rw [List.append_assoc, List.getElem?_append_right (Nat.le_refl _), Nat.sub_self] at hq
              cases hq
              show F.heap[B + hp.length]? = some (vp_cell (cA 3) (n.toNatClampNeg, .inr (.inr (.inr (.inr _)))))
              rw [f2, vp_cell_q]
              unfold am_oc
              refine congrArg (fun z => some (arrV (cA 3) n.toNatClampNeg z)) (funext fun a => ?_)
              by_cases ha : a < n.toNatClampNeg
              · simp only [if_pos ha, Option.map_some]
                unfold am_ad
                rw [if_pos (by omega)]
                congr 2
                omega
              · simp only [if_neg ha, Option.map_none]
            · rw [List.getElem?_append_right (by simp; omega)] at hq
              rw [List.getElem?_replicate] at hq
              split at hq
              · next hlt =>
                cases hq
                have hlt' : i - (hp.length + 1) < n.toNatClampNeg := by simpa using hlt
                show F.heap[B + i]? = some (vp_cell (cA 0) (j.toNatClampNeg, .inl (fun _ => 0)))
                have := hrow (i - (hp.length + 1)) hlt'
                rw [show B + hp.length + 1 + (i - (hp.length + 1)) = B + i by omega] at this
                rw [this]
                rfl
              · cases hq
        have hfz : F.heap.size = B + hp.length + 1 + n.toNatClampNeg := by rw [f1, hTh, hTz]
        have hS1 : va_S (fun q => B ≤ q) s.heap F.heap (locs ++ (List.range n.toNatClampNeg).map fun j => ⟨T.heap.size, j⟩) := by
          refine ⟨by have := hS.1; omega, fun q g1 g2 => ?_, fun q hq => ?_⟩
          · rw [hold q (Nat.lt_of_lt_of_le g1 hS.1)]
            exact hS.2.1 q g1 g2
          · rcases List.mem_append.mp hq with h | h
            · exact hS.2.2 q h
            · obtain ⟨z, -, hz⟩ := List.mem_map.mp h
              rw [← hz]
              show B ≤ T.heap.size
              omega
        have k2 := kk F.heap _ lsA (cells + 1 + n.toNatClampNeg) (slots + n.toNatClampNeg + n.toNatClampNeg * j.toNatClampNeg) hP1 hS1 hl (by show _ = ((hp ++ [_]) ++ List.replicate _ _).length; simp; omega) (by show _ ≤ R.slots + am_sz ((hp ++ [_]) ++ List.replicate _ _); simp only [am_sz_app, hszr]; rw [show am_sz [Sum.inl (3, n.toNatClampNeg, .inr (.inr (.inr (.inr (fun i => if i < n.toNatClampNeg then some (hp.length + 1 + i) else none)))))] = n.toNatClampNeg by simp [am_sz, am_cz]]; omega) hnn F rfl X'
        obtain ⟨t, a1, b1⟩ := k2
        refine ⟨t, step t ?_, b1⟩
        have e9 : (F0 m (pc + 4) lsA ((Value.ref hp.length :: r).map (am_v B ra))) = { (F0 m pc lsA ((.int j :: .int n :: r).map (am_v B ra))) with pc := pc + 4, stack := .ref T.heap.size :: r.map (am_v B ra) } := by
          rw [List.map_cons, am_v_lo (by omega), hTz]
        rw [← e9]
        exact a1
      · cases h
    · cases h
  · cases h
end AMZ
end
section
/-! calls; the run of a method -/
theorem am_ofW {l : Launch} {y : MethodName} {ws ws' : List Cond} {rm : Room} {Pc : Array Value → State → Prop} {Qc : Array Value → State → Outcome → State → Prop} {mc ms : Nat} {free : Addr → Prop} {cc : ByteArray} {maxL : Nat} {ret : Option FieldType}
    (hy : plainFor y = true) (hw : ws = Cond.code y cc maxL ret :: ws')
    (body : ∀ p e s m args below meth c s₁, BodyLoose p l y (headSpec ws rm) cc maxL ret e s m args below meth c s₁ → c.maxLocals = maxL → Pc args s →
      W p l e rm s m args below meth c s.heap [] 0 0 (MQ below Qc args s mc ms free) (entryFrame m args maxL)) : Met l y ws rm Pc Qc mc ms free := by
  refine MetFree.of_bodySF (code := cc) (maxLocals := maxL) (ret := ret) hy ?_ ?_
  · intro args s m h hn
    obtain ⟨meth, c, h1, h2, h3, h4, h5, h6, -, -⟩ := Cond.code_spec hn (atoms_spec (ws := ws) h _ (by rw [hw]; exact List.mem_cons_self))
    exact ⟨meth, c, h1, h2, h3, h4, h5, h6⟩
  · intro p e s m args below meth c s₁ Bd hml hP _
    have hh0 : s₁.heap = s.heap := by rw [Bd.state]; rfl
    obtain ⟨t, a1, o, b1, b2, b3⟩ := body p e s m args below meth c s₁ Bd hml hP s₁ hh0 (Stand.of_body Bd)
    exact ⟨t, o, a1, b1, b2, ⟨b3.1, b3.2⟩⟩
/-- the words of a method: its code, and all others -/
def am_mw (N : am_M) : List Cond := Cond.code (am_y N) (am_cc N) (am_ml N) (am_rt N) :: am_G
def am_rm (d mc ms : Nat) : Room := { frames := d + 1, cells := mc, slots := ms, locals := 40 * d + 60 }
/-- a call's start and end -/
def am_B (D : va_G) (B : Nat) (ra : Nat → Nat) (cA : Nat → ClassId) (E : am_Env) (hp : am_H) (U : State) : Prop := U.heap.size = B + hp.length ∧ va_P D am_cl (am_w B ra cA hp) U.heap ∧ va_K D am_cl (am_tys cA) U ∧ am_RO B ra E U
def am_Qc (D : va_G) (B : Nat) (ra : Nat → Nat) (cA : Nat → ClassId) (r : Option Value) (hp1 : am_H) : Array Value → State → Outcome → State → Prop := fun _ st o t => (o = .returned (r.map (am_v B ra)) ∧ va_P D am_cl (am_w B ra cA hp1) t.heap) ∧ va_F (fun q => B ≤ q) st t
def am_Met (l : Launch) (D : va_G) (B : Nat) (ra : Nat → Nat) (cA : Nat → ClassId) (E : am_Env) (d : Nat) (N : am_M) (as : List Value) (hp : am_H) (r : Option Value) (hp1 : am_H) : Prop :=
  Met l (am_y N) (am_mw N) (am_rm d (hp1.length - hp.length) (am_sz hp1 - am_sz hp)) (va_Pc (as.map (am_v B ra)) (am_B D B ra cA E hp)) (am_Qc D B ra cA r hp1) (hp1.length - hp.length) (am_sz hp1 - am_sz hp) (fun q => B ≤ q)
theorem am_good {N : am_M} (hC : Cond.code (am_y N) (am_cc N) (am_ml N) (am_rt N) ∈ am_G) : GoodIn am_G (am_mw N) := by
  intro w hw
  have hm : w ∈ am_G := by
    rcases List.mem_cons.mp hw with h | h
    · rw [h]; exact hC
    · exact h
  exact ⟨hm, good_of_word (List.mem_filter.mp hm).2⟩
section AMR
variable {D : va_G} {B : Nat} {ra : Nat → Nat} {cA : Nat → ClassId} {E : am_Env} {n0 n1 z1 d : Nat} {M N : am_M} {p : Program} {l : Launch} {e : Env} {R : Room} {s : State} {m : MethodId} {args : Array Value} {below : List Frame} {meth : Method} {c : Code} {Q : State → Prop}
theorem am_B.blind {as : List Value} {hp : am_H} : FrameBlind (va_Pc as (am_B D B ra cA E hp)) := by
  intro a U g mk h
  obtain ⟨h1, h2, h3, h4, h5⟩ := h
  exact ⟨h1, h2, h3, va_K.moved (u := U) (U := U.calling g mk a) (Vm.Alike.refl U.vm) h4, am_RO.on (s := U) (U := U.calling g mk a) h5 (State.WarmedH.refl U) (fun _ _ _ => rfl)⟩
theorem am_B.at {hp : am_H} {H : Heap} {locs : List Loc} (hP : va_P D am_cl (am_w B ra cA hp) H) (hz : H.size = B + hp.length) (hK : va_K D am_cl (am_tys cA) s) (hro : am_RO B ra E s) (hS : va_S (fun q => B ≤ q) s.heap H locs) : ∀ U : State, U.heap = H → s.WarmedH U.vm → am_B D B ra cA E hp U := by
  intro U hU hW
  exact ⟨by rw [hU]; exact hz, by rw [hU]; exact hP, va_K.moved hW.alike hK, hro.on hW (fun q h1 h2 => by rw [hU]; exact hS.2.1 q h1 h2)⟩
/-- behind a call -/
theorem am_behind {H : Heap} {locs : List Loc} {cells slots mc ms pc : Nat} {lsA : Array Slot} {st0 rest : List Value} {a : Array Value} {r : Option Value} {hp1 : am_H} (hr : va_Run p l e R s m args below meth c H locs cells slots mc ms (F0 m pc lsA st0) rest (am_Qc D B ra cA r hp1 a) (fun q => B ≤ q)) (hS : va_S (fun q => B ≤ q) s.heap H locs)
    (kk : ∀ (H1 : Heap) (locs1 : List Loc), va_P D am_cl (am_w B ra cA hp1) H1 → va_S (fun q => B ≤ q) s.heap H1 locs1 → W p l e R s m args below meth c H1 locs1 (cells + mc) (slots + ms) Q (F0 m (pc + 3) lsA ((r.map (am_v B ra)).toList ++ rest))) : W p l e R s m args below meth c H locs cells slots Q (F0 m pc lsA st0) := by
  intro T hT X
  obtain ⟨v, st₀, t, T', L, h0, X', hL, e1, e2, ⟨⟨hv, hp⟩, hz, hk⟩, st⟩ := hr T hT X
  cases hv
  rw [h0] at hz hk
  obtain ⟨t2, a1, b1⟩ := kk T'.heap (locs ++ L) (by rw [e1]; exact hp) ⟨Nat.le_trans hS.1 (by rw [e1]; exact hz), fun q h1 h2 => by rw [e1, hk q (Nat.lt_of_lt_of_le h1 hS.1) h2]; exact hS.2.1 q h1 h2, fun q hq => by
      rcases List.mem_append.mp hq with h | h
      · exact hS.2.2 q h
      · exact hL q h⟩ T' rfl X'
  exact ⟨t2, st t2 a1, b1⟩
theorem am_sdN_ok {n : Nat} (h : am_sdN N n = true) : plainFor (am_y N) = true ∧ (am_y N).cls ≠ "java/lang/invoke/MethodHandle" ∧ (am_y N).cls ≠ "java/lang/invoke/VarHandle" ∧ (parseMethodDescriptor (am_y N).desc).map (fun d => d.parameters.length) = some n ∧ am_n (am_o N) = (am_y N).cls ∧ am_ml N ≤ 20 ∧ (am_ini N = true → (am_y N).name = "<init>") := of_decide_eq_true h
/-- a call, whichever -/
theorem am_call {i : Instr} {j : Nat} {v : Bool} (F : am_Fr D B ra cA E n0 (d + 1) M p R s m args meth c) {nn pc : Nat} {ls : am_L} {st : List Value} {hp hp1 : am_H} {r : Option Value} (hdg0 : decode (am_cc M) pc = .ok (i, nn)) (hn : am_ln i = 0 ∨ nn = am_ln i) (hcal : am_cal M i = some (j, v)) (hN : am_tab j = some N)
    (hna : am_na N ≤ st.length) (hcat : ((st.drop (am_na N)).map fun v => v.category).sum ≤ 8) (hrcv : v = true → am_rcv N (st.take (am_na N)).reverse hp = true) (hmono : hp.length ≤ hp1.length ∧ am_sz hp ≤ am_sz hp1) (hfin : hp1.length ≤ n1 ∧ am_sz hp1 ≤ z1) (h0 : n0 ≤ hp.length)
    (hMet : am_Met l D B ra cA E d N (st.take (am_na N)).reverse hp r hp1)
    (kk : am_AW D B ra cA n0 n1 z1 M p l e R s m args below meth c Q (pc + 3, ls, r.toList ++ st.drop (am_na N), hp1)) : am_AW D B ra cA n0 n1 z1 M p l e R s m args below meth c Q (pc, ls, st, hp) := by
  intro H locs lsA cells slots hP hS hl hc hs hnn
  have hsplit : st = (st.take (am_na N)).reverse.reverse ++ st.drop (am_na N) := by rw [List.reverse_reverse, List.take_append_drop]
  have hlen : (st.take (am_na N)).reverse.length = am_na N := by rw [List.length_reverse, List.length_take]; exact Nat.min_eq_left hna
  generalize (st.take (am_na N)).reverse = as at hsplit hlen hMet hrcv
  generalize st.drop (am_na N) = rest at hsplit hcat kk
  subst hsplit
  obtain ⟨hx, hb, hml, hown, hts, hK, hro, hr, hlk, hini, hB, hR1, hR2, hok, hR3, hR4⟩ := F
  have hcl : cells + n0 = hp.length := hc
  have hsl : slots + z1 ≤ R.slots + am_sz hp := hs
  have hP : va_P D am_cl (am_w B ra cA hp) H := hP
  refine am_bd (fun hbd => ?_)
  have hz : H.size = B + hp.length := by
    have := am_lo hP hS hB h0
    omega
  have hC : Cond.code (am_y N) (am_cc N) (am_ml N) (am_rt N) ∈ am_G := am_okC hN
  have hG := am_good hC
  have hPre := am_B.at hP hz hK hro hS
  have hroom : (am_rm d (hp1.length - hp.length) (am_sz hp1 - am_sz hp)).frames + 1 ≤ R.frames := by show d + 1 + 1 ≤ _; omega
  have hfit : cells + (hp1.length - hp.length) ≤ R.cells ∧ slots + (am_sz hp1 - am_sz hp) ≤ R.slots := by omega
  have hW8 : 2 * (F0 m pc lsA ((as.reverse ++ rest).map (am_v B ra))).monitorRoom + ((rest.map (am_v B ra)).map fun v => v.category).sum ≤ 8 := by
    rw [am_cats]
    show 2 * 0 + _ ≤ 8
    omega
  have kk' : ∀ (H1 : Heap) (locs1 : List Loc), va_P D am_cl (am_w B ra cA hp1) H1 → va_S (fun q => B ≤ q) s.heap H1 locs1 → W p l e R s m args below meth c H1 locs1 (cells + (hp1.length - hp.length)) (slots + (am_sz hp1 - am_sz hp)) Q (F0 m (pc + 3) lsA ((r.map (am_v B ra)).toList ++ rest.map (am_v B ra))) := by
    intro H1 locs1 hP1 hS1
    have k2 := kk H1 locs1 lsA (cells + (hp1.length - hp.length)) (slots + (am_sz hp1 - am_sz hp)) hP1 hS1 hl (by show _ = hp1.length; omega) (by show _ ≤ R.slots + am_sz hp1; omega) hnn
    have e1 : (r.toList ++ rest).map (am_v B ra) = (r.map (am_v B ra)).toList ++ rest.map (am_v B ra) := by cases r <;> simp
    rw [← e1]
    exact k2
  have hCF : CallFix p m c (am_cc M) (am_ml M) s args am_G (am_n (am_o M)) := ⟨hx, hb, hml, hown, hts⟩
  have hstk : (as.reverse ++ rest).map (am_v B ra) = (as.map (am_v B ra)).reverse ++ rest.map (am_v B ra) := by rw [List.map_append, List.map_reverse]
  unfold am_cal at hcal
  split at hcal
  · next x =>
    obtain rfl : nn = 3 := hn.resolve_left (by simp [am_ln])
    split at hcal
    · next j' _ hpl =>
      cases hcal
      obtain ⟨h1, h2⟩ := am_pl_ok hpl
      simp only [am_ws, hN] at h1
      simp only [am_sd, hN, Bool.and_eq_true, Bool.or_eq_true, decide_eq_true_eq] at h2
      obtain ⟨⟨h3, h4⟩, h5⟩ := h2
      obtain ⟨g1, g2, g3, g4, g5, g6, g7⟩ := am_sdN_ok h3
      match as, hlen, hrcv, hMet, hstk with
      | [], hlen, _, _, _ => simp at hlen; omega
      | a0 :: at0, hlen, hrcv, hMet, hstk =>
        have hrc := hrcv rfl
        cases a0 with
        | ref b =>
          have hrecv : ∃ cellB : Cell, H[am_ad B ra b]? = some cellB ∧ cellB.vm.isStatics = false ∧ s.vm.findClass (am_y N).cls = some cellB.cls := by
            simp only [am_rcv] at hrc
            by_cases hb1 : b < 1000000
            · rw [if_pos hb1] at hrc
              split at hrc
              · next ci fs hcell =>
                have hci : ci = am_o N := of_decide_eq_true hrc
                subst hci
                rcases h5 with h5 | h5
                · rw [h5] at hcell
                  obtain ⟨q, hq, -⟩ := hP b _ (am_w_at hcell)
                  simp [am_cl] at hq
                · split at h5
                  · next q hq =>
                    have h6 : q.1 = (am_y N).cls := of_decide_eq_true h5
                    have := va_recv hK hP hq (am_w_at hcell)
                    rw [h6] at this
                    unfold am_ad
                    rw [if_pos hb1]
                    exact this
                  · cases h5
              · cases hrc
            · rw [if_neg hb1] at hrc
              simp only [decide_eq_true_eq] at hrc
              obtain ⟨i, hi, rfl⟩ := am_half ⟨Nat.not_lt.mp hb1, hrc.2⟩
              obtain ⟨cell, k1, k2, k3, -⟩ := (hro.2.1 i hi).1.kept hS.2.1
              unfold am_ad
              rw [if_neg hb1, ← g5, hrc.1]
              exact ⟨cell, k1, k2, k3⟩
            
          refine am_behind (va_runV (C := (am_y N).cls) (b := am_ad B ra b) (As := at0.map (am_v B ra)) (rest := rest.map (am_v B ra)) hCF hMet ⟨callB_of (am_na N - 1) hts hG rfl rfl rfl (hts _ (h1 _ (by simp))) (hts _ (h1 _ (by simp))) ⟨g2, g3, g4⟩ ⟨hroom, by show 8 + (am_ml N + 11) + (40 * d + 60) ≤ _; omega⟩, hts _ (h1 _ (by simp)), hts _ (h1 _ (by simp))⟩ ⟨am_B.blind, hrecv, fun U hU hW => ⟨rfl, hPre U hU hW⟩⟩ rfl (by simp at hlen ⊢; omega) hl.1 ?_ hW8 hdg0 hfit) hS kk'
          show ((Value.ref b :: at0).reverse ++ rest).map (am_v B ra) = _
          rw [hstk, List.map_cons, List.reverse_cons, List.append_assoc]
          rfl
        | _ => simp [am_rcv] at hrc
    · cases hcal
  · next x =>
    obtain rfl : nn = 3 := hn.resolve_left (by simp [am_ln])
    split at hcal
    · next j' _ hpl =>
      cases hcal
      obtain ⟨h1, h2⟩ := am_pl_ok hpl
      simp only [am_ws, hN] at h1
      simp only [am_sd, hN] at h2
      obtain ⟨g1, g2, g3, g4, g5, g6, g7⟩ := am_sdN_ok h2
      exact am_behind (va_runS (As := as.map (am_v B ra)) (rest := rest.map (am_v B ra)) hCF hMet ⟨callB_of (am_na N) hts hG rfl rfl rfl (hts _ (h1 _ (by simp))) (hts _ (h1 _ (by simp))) ⟨g2, g3, g4⟩ ⟨hroom, by show 8 + (am_ml N + 11) + (40 * d + 60) ≤ _; omega⟩, hts _ (h1 _ (by simp))⟩ ⟨am_B.blind, fun U hU hW => ⟨rfl, hPre U hU hW⟩⟩ rfl (by rw [List.length_map]; exact hlen) hl.1 hstk hW8 hdg0 hfit) hS kk'
    · next j' b' hpl =>
      cases hcal
      obtain ⟨h1, h2⟩ := am_pl_ok hpl
      simp only [am_ws, hN] at h1
      simp only [am_sd, hN] at h2
      split at h2
      · next N' w hN' hw =>
        cases hN'
        simp only [Bool.and_eq_true, decide_eq_true_eq] at h2
        obtain ⟨g1, g2, g3, g4, g5, g6, g7⟩ := am_sdN_ok h2.1
        obtain ⟨q, hq, hqe⟩ := List.mem_map.mp (List.mem_of_getElem? hw)
        have hnl : va_Nw (.methodLinkNest (am_n (am_o M)) x (am_y N) "LockOrchestra") s := by
          rw [← h2.2, ← hqe]
          exact hro.2.2.2.2.2.1 q hq
        exact am_behind (va_runSN (As := as.map (am_v B ra)) (rest := rest.map (am_v B ra)) hCF hMet ⟨va_cnB (am_na N) hts hG rfl rfl rfl hnl (hts _ (h1 _ (by simp))) ⟨g2, g3, g4⟩ ⟨hroom, by show 8 + (am_ml N + 11) + (40 * d + 60) ≤ _; omega⟩, hts _ (h1 _ (by simp)), trivial⟩ ⟨am_B.blind, fun U hU hW => ⟨rfl, hPre U hU hW⟩⟩ rfl (by rw [List.length_map]; exact hlen) hl.1 hstk hW8 hdg0 hfit) hS kk'
      · cases h2
    · cases hcal
  · next x =>
    obtain rfl : nn = 3 := hn.resolve_left (by simp [am_ln])
    split at hcal
    · next j' _ hpl =>
      cases hcal
      obtain ⟨h1, h2⟩ := am_pl_ok hpl
      simp only [am_ws, hN] at h1
      simp only [am_sd, hN, Bool.and_eq_true, decide_eq_true_eq] at h2
      obtain ⟨h3, h4, h5, h6⟩ := h2
      obtain ⟨g1, g2, g3, g4, g5, g6, g7⟩ := am_sdN_ok h3
      match as, hlen, hrcv, hMet, hstk with
      | [], hlen, _, _, _ => simp at hlen; omega
      | a0 :: at0, hlen, hrcv, hMet, hstk =>
        have hrc := hrcv rfl
        cases a0 with
        | ref b =>
          refine am_behind (va_runI (b := am_ad B ra b) (As := at0.map (am_v B ra)) (rest := rest.map (am_v B ra)) (bytes := am_cc N) (maxL := am_ml N) hCF hMet ⟨by rw [← h6]; exact callB_of (am_na N - 1) hts hG rfl rfl rfl (hts _ (h1 _ (by simp))) (hts _ (h1 _ (by simp))) ⟨g2, g3, g4⟩ ⟨hroom, by show 8 + (am_ml N + 11) + (40 * d + 60) ≤ _; omega⟩, h5, hts _ (h1 _ (by simp))⟩ ⟨am_B.blind, fun U hU hW => ⟨rfl, hPre U hU hW⟩⟩ rfl (by simp at hlen ⊢; omega) hl.1 ?_ hW8 hdg0 hfit) hS kk'
          show ((Value.ref b :: at0).reverse ++ rest).map (am_v B ra) = _
          rw [hstk, List.map_cons, List.reverse_cons, List.append_assoc]
          rfl
        | _ => simp [am_rcv] at hrc
    · next j' b' hpl =>
      cases hcal
      obtain ⟨h1, h2⟩ := am_pl_ok hpl
      simp only [am_ws, hN] at h1
      simp only [am_sd, hN] at h2
      split at h2
      · next N' w hN' hw =>
        cases hN'
        simp only [Bool.and_eq_true, decide_eq_true_eq] at h2
        obtain ⟨⟨h3, h4, h5, h6⟩, h7⟩ := h2
        obtain ⟨g1, g2, g3, g4, g5, g6, g7⟩ := am_sdN_ok h3
        obtain ⟨q, hq, hqe⟩ := List.mem_map.mp (List.mem_of_getElem? hw)
        have hnl : va_Nw (.methodLinkNest (am_n (am_o M)) x (am_y N) "LockOrchestra") s := by
          rw [← h7, ← hqe]
          exact hro.2.2.2.2.2.1 q hq
        match as, hlen, hrcv, hMet, hstk with
        | [], hlen, _, _, _ => simp at hlen; omega
        | a0 :: at0, hlen, hrcv, hMet, hstk =>
          have hrc := hrcv rfl
          cases a0 with
          | ref b =>
            refine am_behind (va_runIN (b := am_ad B ra b) (As := at0.map (am_v B ra)) (rest := rest.map (am_v B ra)) (bytes := am_cc N) (maxL := am_ml N) hCF hMet ⟨by rw [← h6]; exact va_cnB (am_na N - 1) hts hG rfl rfl rfl hnl (hts _ (h1 _ (by simp))) ⟨g2, g3, g4⟩ ⟨hroom, by show 8 + (am_ml N + 11) + (40 * d + 60) ≤ _; omega⟩, h5, hts _ (h1 _ (by simp))⟩ ⟨am_B.blind, fun U hU hW => ⟨rfl, hPre U hU hW⟩⟩ rfl (by simp at hlen ⊢; omega) hl.1 ?_ hW8 hdg0 hfit) hS kk'
            show ((Value.ref b :: at0).reverse ++ rest).map (am_v B ra) = _
            rw [hstk, List.map_cons, List.reverse_cons, List.append_assoc]
            rfl
          | _ => simp [am_rcv] at hrc
      · cases h2
    · cases hcal
  · cases hcal
end AMR
end
section
/-! the run of a method, whole -/
section AMT
variable {D : va_G} {B : Nat} {ra : Nat → Nat} {cA : Nat → ClassId} {E : am_Env} {n0 n1 z1 d : Nat} {M N : am_M} {p : Program} {l : Launch} {e : Env} {R : Room} {s : State} {m : MethodId} {args : Array Value} {below : List Frame} {meth : Method} {c : Code} {Q : State → Prop}
theorem am_mk_sz {i : Instr} {pc : Nat} {ls : am_L} {st : List Value} {hp : am_H} {C1 : am_C} (h : am_mk M i pc ls st hp = some C1) : hp.length ≤ C1.2.2.2.length ∧ am_sz hp ≤ am_sz C1.2.2.2 := by
  unfold am_mk at h
  (repeat' split at h) <;> first | (cases h; done) | (cases h; exact ⟨by simp, by simp only [am_sz_app]; omega⟩)
theorem am_mk_ok {i : Instr} (F : am_Fr D B ra cA E n0 d M p R s m args meth c) {nn : Nat} {C C1 : am_C} (hdg0 : decode (am_cc M) C.1 = .ok (i, nn)) (hn : am_ln i = 0 ∨ nn = am_ln i) (h : am_mk M i C.1 C.2.1 C.2.2.1 C.2.2.2 = some C1) (h0 : n0 ≤ C.2.2.2.length) (hn1 : C1.2.2.2.length ≤ n1) (hz1 : am_sz C1.2.2.2 ≤ z1) (kk : am_AW D B ra cA n0 n1 z1 M p l e R s m args below meth c Q C1) : am_AW D B ra cA n0 n1 z1 M p l e R s m args below meth c Q C := by
  cases i with
  | new x => exact am_o_new x F hdg0 hn h hn1 hz1 kk
  | newarray t =>
    cases t with
    | int => exact am_o_newa_int F hdg0 hn h hn1 hz1 kk
    | long => exact am_o_newa_long F hdg0 hn h hn1 hz1 kk
    | char => exact am_o_newa_char F hdg0 hn h hn1 hz1 kk
    | _ => simp only [am_mk, am_na0] at h; (repeat' split at h) <;> cases h
  | multianewarray x k => exact am_o_mna x k F hdg0 hn h h0 hn1 hz1 kk
  | _ => simp [am_mk] at h
theorem am_run_mono : ∀ (fu d : Nat) (M : am_M) (pc : Nat) (ls : am_L) (st : List Value) (hp : am_H) (r : Option Value) (hp1 : am_H), am_run E fu d M pc ls st hp = some (r, hp1) → hp.length ≤ hp1.length ∧ am_sz hp ≤ am_sz hp1 := by
  intro fu
  induction fu with
  | zero => intro d M pc ls st hp r hp1 h; cases h
  | succ fu ih =>
    intro d M pc ls st hp r hp1 h
    unfold am_run at h
    split at h
    · cases h
    · next i hi =>
      split at h
      · cases h
        exact ⟨Nat.le_refl _, Nat.le_refl _⟩
      · split at h
        · next j v hcal =>
          split at h
          · next d' N hN =>
            split at h
            · split at h
              · next r1 hp2 hrun =>
                have a1 := ih _ _ _ _ _ _ _ _ hrun
                have a2 := ih _ _ _ _ _ _ _ _ h
                omega
              · cases h
            · cases h
          · cases h
        · split at h
          · next pc' ls' st' hp' hone =>
            have a1 := am_one_sz hone
            have a2 := ih _ _ _ _ _ _ _ _ h
            have a3 : hp'.length = hp.length := a1.1
            have a4 : am_sz hp' = am_sz hp := a1.2
            omega
          · split at h
            · next pc' ls' st' hp' hmk =>
              have a1 := am_mk_sz hmk
              have a2 := ih _ _ _ _ _ _ _ _ h
              have a3 : hp.length ≤ hp'.length := a1.1
              have a4 : am_sz hp ≤ am_sz hp' := a1.2
              omega
            · cases h
/-- a return -/
theorem am_ret_ok {i : Instr} {r : Option Value} {hp hp1 : am_H} {pc : Nat} {ls : am_L} {st : List Value} {as : Array Value} (hcell : R.cells = hp1.length - hp.length) (hslot : R.slots = am_sz hp1 - am_sz hp) (hm : hp.length ≤ hp1.length ∧ am_sz hp ≤ am_sz hp1) (F : am_Fr D B ra cA E hp.length d M p R s m as meth c) (hi : (am_cd M).lookup pc = some i) (h : am_ret M i st = some r) :
    am_AW D B ra cA hp.length hp1.length (am_sz hp1) M p l e R s m as below meth c (MQ below (am_Qc D B ra cA r hp1) as s (hp1.length - hp.length) (am_sz hp1 - am_sz hp) (fun q => B ≤ q)) (pc, ls, st, hp1) := by
  intro H locs lsA cells slots hP hS hl hc hs hnn
  obtain ⟨hx, hb, hml, hown, hts, hK, hro, hr, hlk, hini, hB, hR1, hR2, hok, hR3, hR4⟩ := F
  obtain ⟨nn, hdg0, hn⟩ := am_dec hok hi
  have hcl : cells + hp.length = hp1.length := hc
  have hsl : slots + am_sz hp1 ≤ R.slots + am_sz hp1 := hs
  refine W.widen (k := hp1.length - hp.length) (n := am_sz hp1 - am_sz hp) (by omega) (by omega) ?_
  have hq : ∀ (v : Option Value), r.map (am_v B ra) = v → ∀ t : State, t.heap = H → s.WarmedH t.vm → am_Qc D B ra cA r hp1 as s (.returned v) t := fun v hv t ht hW => ⟨⟨by rw [hv], by rw [ht]; exact hP⟩, hS.F ht⟩
  unfold am_ret at h
  split at h
  · obtain rfl : nn = 1 := hn.resolve_left (by simp [am_ln])
    split at h
    · next hrt =>
      cases h
      exact W.vret hx hb (hr.trans hrt) (hq none rfl) hS.2.2 hdg0 hlk
    · cases h
  · obtain rfl : nn = 1 := hn.resolve_left (by simp [am_ln])
    split at h
    · next x ty hrt =>
      split at h
      · next hnar =>
        cases h
        exact W.zret hx hb (hr.trans hrt) hnar (hq (some (.int x)) rfl) hS.2.2 hdg0 hlk
      · cases h
    · cases h
  · obtain rfl : nn = 1 := hn.resolve_left (by simp [am_ln])
    split at h
    · next x hrt =>
      cases h
      exact W.lret hx hb (hr.trans hrt) (hq (some (.long x)) rfl) hS.2.2 hdg0 hlk
    · cases h
  · obtain rfl : nn = 1 := hn.resolve_left (by simp [am_ln])
    split at h
    · next x o hrt =>
      cases h
      exact W.aret hx hb (hr.trans hrt) (Or.inl ⟨_, rfl⟩) (Or.inr ⟨_, rfl⟩) (hq (some (am_v B ra (.ref x))) rfl) hS.2.2 hdg0 hlk
    · next x o hrt =>
      cases h
      exact W.aret hx hb (hr.trans hrt) (Or.inr ⟨_, rfl⟩) (Or.inr ⟨_, rfl⟩) (hq (some (am_v B ra (.ref x))) rfl) hS.2.2 hdg0 hlk
    · cases h
  · cases h
theorem am_tab_sd {i : Instr} {j : Nat} {v : Bool} (hcal : am_cal M i = some (j, v)) (hN : am_tab j = some N) : plainFor (am_y N) = true ∧ am_n (am_o N) = (am_y N).cls ∧ (am_ini N = true → (am_y N).name = "<init>") := by
  unfold am_cal at hcal
  split at hcal
  · split at hcal
    · next j' _ hpl =>
      cases hcal
      obtain ⟨-, h2⟩ := am_pl_ok hpl
      simp only [am_sd, hN, Bool.and_eq_true] at h2
      obtain ⟨g1, g2, g3, g4, g5, g6, g7⟩ := am_sdN_ok h2.1.1
      exact ⟨g1, g5, g7⟩
    · cases hcal
  · split at hcal
    · next j' _ hpl =>
      cases hcal
      obtain ⟨-, h2⟩ := am_pl_ok hpl
      simp only [am_sd, hN] at h2
      obtain ⟨g1, g2, g3, g4, g5, g6, g7⟩ := am_sdN_ok h2
      exact ⟨g1, g5, g7⟩
    · next j' _ hpl =>
      cases hcal
      obtain ⟨-, h2⟩ := am_pl_ok hpl
      simp only [am_sd, hN] at h2
      split at h2
      · next N' w hN' hw =>
        cases hN'
        simp only [Bool.and_eq_true] at h2
        obtain ⟨g1, g2, g3, g4, g5, g6, g7⟩ := am_sdN_ok h2.1
        exact ⟨g1, g5, g7⟩
      · cases h2
    · cases hcal
  · split at hcal
    · next j' _ hpl =>
      cases hcal
      obtain ⟨-, h2⟩ := am_pl_ok hpl
      simp only [am_sd, hN, Bool.and_eq_true] at h2
      obtain ⟨g1, g2, g3, g4, g5, g6, g7⟩ := am_sdN_ok h2.1
      exact ⟨g1, g5, g7⟩
    · next j' _ hpl =>
      cases hcal
      obtain ⟨-, h2⟩ := am_pl_ok hpl
      simp only [am_sd, hN] at h2
      split at h2
      · next N' w hN' hw =>
        cases hN'
        simp only [Bool.and_eq_true] at h2
        obtain ⟨g1, g2, g3, g4, g5, g6, g7⟩ := am_sdN_ok h2.1.1
        exact ⟨g1, g5, g7⟩
      · cases h2
    · cases hcal
  · cases hcal
end AMT
set_option maxHeartbeats 4000000 in
theorem am_run_ok (l : Launch) (D : va_G) (B : Nat) (ra : Nat → Nat) (cA : Nat → ClassId) (E : am_Env) : ∀ (fu d : Nat) (M : am_M) (pc : Nat) (ls : am_L) (st : List Value) (hp : am_H) (r : Option Value) (hp1 : am_H), am_run E fu d M pc ls st hp = some (r, hp1) →
    ∀ (n0 n1 z1 : Nat) (p : Program) (e : Env) (R : Room) (s : State) (m : MethodId) (args : Array Value) (below : List Frame) (meth : Method) (c : Code) (Q : State → Prop), am_Fr D B ra cA E n0 d M p R s m args meth c → n0 ≤ hp.length → hp1.length ≤ n1 → am_sz hp1 ≤ z1 →
    (∀ (pc' : Nat) (i : Instr) (ls' : am_L) (st' : List Value), (am_cd M).lookup pc' = some i → am_ret M i st' = some r → am_AW D B ra cA n0 n1 z1 M p l e R s m args below meth c Q (pc', ls', st', hp1)) →
    am_AW D B ra cA n0 n1 z1 M p l e R s m args below meth c Q (pc, ls, st, hp) := by
  intro fu
  induction fu with
  | zero => intro d M pc ls st hp r hp1 h; cases h
  | succ fu ih =>
    intro d M pc ls st hp r hp1 h n0 n1 z1 p e R s m args below meth c Q F h0 hn1 hz1 hret
    have hok : am_okD M = true := F.2.2.2.2.2.2.2.2.2.2.2.2.2.1
    unfold am_run at h
    split at h
    · cases h
    · next i hi =>
      obtain ⟨nn, hdg0, hn⟩ := am_dec hok hi
      split at h
      · next r0 hr0 =>
        cases h
        exact hret pc i ls st hi hr0
      · split at h
        · next j v hcal =>
          split at h
          · next d' N hN =>
            split at h
            · next hcnd =>
              obtain ⟨c1, c2, c3, c4⟩ := hcnd
              split at h
              · next r1 hp2 hrun =>
                have m1 := am_run_mono _ _ _ _ _ _ _ _ _ hrun
                have m2 := am_run_mono _ _ _ _ _ _ _ _ _ h
                obtain ⟨g1, g5, g7⟩ := am_tab_sd hcal hN
                refine am_call F hdg0 hn hcal hN c1 c2 c3 m1 ⟨by omega, by omega⟩ h0 ?_ (ih _ _ _ _ _ _ _ _ h n0 n1 z1 p e R s m args below meth c Q F (by omega) hn1 hz1 hret)
                refine am_ofW g1 rfl ?_
                intro p' e' s' m' args' below' meth' c' s₁ Bd hml hv
                obtain ⟨rfl, hsz, hP, hK, hro⟩ := hv
                have F' : am_Fr D B ra cA E hp.length d' N p' (am_rm d' (hp2.length - hp.length) (am_sz hp2 - am_sz hp)) s' m' (((st.take (am_na N)).reverse.map (am_v B ra)).toArray) meth' c' :=
                  ⟨Bd.exec, Bd.bytes, hml, by rw [g5]; exact findClass_of_methodNamed Bd.named, fun w hw => atoms_spec (ws := am_mw N) Bd.pre w (List.mem_cons_of_mem _ hw), hK, hro, Bd.returns, Bd.notSynchronized, fun hi => (name_of_methodNamed Bd.named Bd.method).1.trans (g7 hi), hsz, Nat.le_refl _, Nat.le_refl _, am_okM hN, Nat.le_add_left _ _, Nat.le_add_left _ _⟩
                have A := ih _ _ _ _ _ _ _ _ hrun hp.length hp2.length (am_sz hp2) p' e' (am_rm d' (hp2.length - hp.length) (am_sz hp2 - am_sz hp)) s' m' (((st.take (am_na N)).reverse.map (am_v B ra)).toArray) below' meth' c' (MQ below' (am_Qc D B ra cA r1 hp2) (((st.take (am_na N)).reverse.map (am_v B ra)).toArray) s' (hp2.length - hp.length) (am_sz hp2 - am_sz hp) (fun q => B ≤ q)) F' (Nat.le_refl _) (Nat.le_refl _) (Nat.le_refl _) (fun pc' i' ls' st' hi' hr' => am_ret_ok rfl rfl m1 F' hi' hr')
                rw [lg_entry_eq]
                have hl := lv_entry ((st.take (am_na N)).reverse.map (am_v B ra)) (n := am_ml N) (by rw [am_sl_len]; exact c4)
                rw [am_q_args] at hl
                exact A s'.heap [] _ 0 0 hP va_S.rf hl (Nat.zero_add _) (by show 0 + am_sz hp2 ≤ (am_sz hp2 - am_sz hp) + am_sz hp; omega) (by show hp2.length ≤ (hp2.length - hp.length) + hp.length; omega)
              · cases h
            · cases h
          · cases h
        · split at h
          · next pc' ls' st' hp' hone =>
            have a1 := am_one_sz hone
            have a3 : hp'.length = hp.length := a1.1
            exact am_one_ok F hdg0 hn hone (ih _ _ _ _ _ _ _ _ h n0 n1 z1 p e R s m args below meth c Q F (by omega) hn1 hz1 hret)
          · split at h
            · next pc' ls' st' hp' hmk =>
              have a1 := am_mk_sz hmk
              have a3 : hp.length ≤ hp'.length := a1.1
              have m2 := am_run_mono _ _ _ _ _ _ _ _ _ h
              exact am_mk_ok F hdg0 hn hmk h0 (by show hp'.length ≤ n1; omega) (by show am_sz hp' ≤ z1; omega) (ih _ _ _ _ _ _ _ _ h n0 n1 z1 p e R s m args below meth c Q F (by omega) hn1 hz1 hret)
            · cases h
end
section
/-! THE CLAIM OUT OF ONE WALK OF THE LAW'S BODY. Your part is whole_start (and what it stands on); all else here is the same for every law, but numbers. -/
def R_law : String := "LockOrchestraLaw"
def lw_P (b : Addr) (xs : List Int32) (args : Array Value) (s : State) : Prop := args = #[.ref b] ∧ s.IntsAt b xs ∧ xs.length ≤ 3072 ∧ (Jvm.Cond.and given_1 narrow_1).before args s = true
def lw_Q (_ : Array Value) (s : State) (o : Outcome) (t : State) : Prop := o = .returned (some (.int 1)) ∧ Framed s o t [] 600000 7302249
def lw_Z (below : List Frame) (a : Array Value) (s : State) : State → Prop := fun t => ∃ o, t.status = .running ∧ Ended t below o ∧ lw_Q a s o t
/-- the law's own end, with 1 on the stack, nothing written that was there before, its room as the claim has it -/
theorem lw_ret {p : Program} {l : Launch} {e : Env} {s : State} {m : MethodId} {below : List Frame} {meth : Method} {c : Code} {b : Nat} (hx : p.tables.exec = Jvm.exec) (hb : c.code = code) (hr : meth.sig.returnType = ret) (hlocks : meth.locks = false) {pc : Nat} {H : Heap} {ls : Array Slot} (hdg : decode code pc = .ok (.ireturn, 1)) : W p l e room_1 s m #[Value.ref b] below meth c H [] 600000 7302249 (lw_Z below #[Value.ref b] s) (F0 m pc ls [.int 1]) := by
  intro T hT X
  obtain ⟨fs, hret, hrun, hended, hW, hframe⟩ := X.leave (v := some (.int 1)) (hlocks := hlocks) (fun h => by rw [hr] at h; cases h)
  have hmeth' : T.vm.method? m = some meth := X.method'
  refine ⟨T.setFrames fs, ?_, .returned (some (.int 1)), hrun, hended, rfl, ⟨_, rfl⟩, hW, hframe⟩
  jvm_step X.here [X.here.top, hx, hb, hdg, hmeth', hr, ret, narrow_b1]
  (try refine ⟨rfl, ?_⟩); (try refine ⟨rfl, ?_⟩)
  first | (intro acts; rw [hret _ acts rfl rfl rfl]) | rw [hret _ _ rfl rfl rfl]
  exact Steps.refl _
/-- what holds at the law's entry: the machine, the code, the tables' words (any of lw_tbl by 'hts w (by decide +kernel)'), the script of L ints xs at the cell b, what the Statement gives of the start (any of its parts by flat_of_before) -/
def lw_At (p : Program) (s : State) (m : MethodId) (meth : Method) (c : Code) (b L : Nat) (xs : Nat → Int32) : Prop :=
  p.tables.exec = Jvm.exec ∧ c.code = code ∧ meth.sig.returnType = ret ∧ c.maxLocals = 4 ∧ s.vm.findClass R_law = some m.cls ∧ (∀ w ∈ lw_tbl, w.before #[Value.ref b] s = true) ∧ va_X b L xs s s.heap ∧ b < s.heap.size ∧ meth.locks = false ∧ (Jvm.Cond.and given_1 narrow_1).before #[Value.ref b] s = true
/-! the law's start: what the Statement gives, in the words of part 06 -/
def am_E (L : Nat) (xs : Nat → Int32) : am_Env := fun k => if k = 2000001 then some (0, L, xs) else if k = 2000000 then some (0, 4, fun j => ([4, 6, 6, 5] : List Int32).getD j 0) else if 1000000 ≤ k ∧ (k - 1000000) % 2 = 1 then (am_lit[(k - 1000000) / 2]?).map (fun r => (4, r.2.2.2.length, fun j => r.2.2.2.getD j 0)) else none
def am_flat : List Cond := flatC (Jvm.Cond.and given_1 narrow_1)
def am_tv (own : String) (x : Nat) : Term := .field (.string own x) "java/lang/String" "value" "[B"
def am_lc (own : String) (x : Nat) (bs : List Int32) : List Cond := [.exactly (.string own x) "java/lang/String", .eq (.field (.string own x) "java/lang/String" "coder" "B") (.int 0), .arrayOf (am_tv own x) .byte, .eq (.length (am_tv own x)) (.int (Int32.ofNat bs.length))] ++ (List.range bs.length).map (fun j => .eq (.elem (am_tv own x) (.int (Int32.ofNat j))) (.int (bs.getD j 0)))
def am_lk1 (r : String × Nat × String × List Int32) : Bool := (am_lc r.1 r.2.1 r.2.2.2).all (fun w => decide (w ∈ am_flat)) && decide (r.2.2.2.length < 2 ^ 31) && decide (Cond.stringRef r.1 r.2.1 r.2.2.1 ∈ tables_1)
theorem am_lt0 : am_lk1 ("LockOrchestra$HallReader", 38, "lock", [108, 111, 99, 107]) = true := by decide +kernel
theorem am_lt1 : am_lk1 ("LockOrchestra$Words", 62, " lock wards at jams note turns door opens player plays rust ward stuck number or and not all min max ", [32, 108, 111, 99, 107, 32, 119, 97, 114, 100, 115, 32, 97, 116, 32, 106, 97, 109, 115, 32, 110, 111, 116, 101, 32, 116, 117, 114, 110, 115, 32, 100, 111, 111, 114, 32, 111, 112, 101, 110, 115, 32, 112, 108, 97, 121, 101, 114, 32, 112, 108, 97, 121, 115, 32, 114, 117, 115, 116, 32, 119, 97, 114, 100, 32, 115, 116, 117, 99, 107, 32, 110, 117, 109, 98, 101, 114, 32, 111, 114, 32, 97, 110, 100, 32, 110, 111, 116, 32, 97, 108, 108, 32, 109, 105, 110, 32, 109, 97, 120, 32]) = true := by decide +kernel
theorem am_lt2 : am_lk1 ("LockOrchestra$HallReader", 111, "wards", [119, 97, 114, 100, 115]) = true := by decide +kernel
theorem am_lt3 : am_lk1 ("LockOrchestra$HallReader", 113, "at", [97, 116]) = true := by decide +kernel
theorem am_lt4 : am_lk1 ("LockOrchestra$HallReader", 115, "jams", [106, 97, 109, 115]) = true := by decide +kernel
theorem am_lt5 : am_lk1 ("LockOrchestra$HallReader", 48, "note", [110, 111, 116, 101]) = true := by decide +kernel
theorem am_lt6 : am_lk1 ("LockOrchestra$HallReader", 124, "turns", [116, 117, 114, 110, 115]) = true := by decide +kernel
theorem am_lt7 : am_lk1 ("LockOrchestra$HallReader", 53, "door", [100, 111, 111, 114]) = true := by decide +kernel
theorem am_lt8 : am_lk1 ("LockOrchestra$HallReader", 137, "opens", [111, 112, 101, 110, 115]) = true := by decide +kernel
theorem am_lt9 : am_lk1 ("LockOrchestra$TestReader", 42, "not", [110, 111, 116]) = true := by decide +kernel
theorem am_lt10 : am_lk1 ("LockOrchestra$TestReader", 62, "all", [97, 108, 108]) = true := by decide +kernel
theorem am_lt11 : am_lk1 ("LockOrchestra$TestReader", 89, "min", [109, 105, 110]) = true := by decide +kernel
theorem am_lt12 : am_lk1 ("LockOrchestra$TestReader", 95, "max", [109, 97, 120]) = true := by decide +kernel
theorem am_lt13 : am_lk1 ("LockOrchestra$TestReader", 97, "at", [97, 116]) = true := by decide +kernel
theorem am_lt14 : am_lk1 ("LockOrchestra$TestReader", 102, "turns", [116, 117, 114, 110, 115]) = true := by decide +kernel
theorem am_lt15 : am_lk1 ("LockOrchestra$TestReader", 113, "jams", [106, 97, 109, 115]) = true := by decide +kernel
theorem am_lt16 : am_lk1 ("LockOrchestra$TestReader", 115, "number", [110, 117, 109, 98, 101, 114]) = true := by decide +kernel
theorem am_lt17 : am_lk1 ("LockOrchestra$TestReader", 117, "wards", [119, 97, 114, 100, 115]) = true := by decide +kernel
theorem am_lt18 : am_lk1 ("LockOrchestra$TestReader", 119, "ward", [119, 97, 114, 100]) = true := by decide +kernel
theorem am_lt19 : am_lk1 ("LockOrchestra$TestReader", 121, "stuck", [115, 116, 117, 99, 107]) = true := by decide +kernel
theorem am_lt20 : am_lk1 ("LockOrchestra$TestReader", 40, "and", [97, 110, 100]) = true := by decide +kernel
theorem am_lt21 : am_lk1 ("LockOrchestra$TestReader", 23, "or", [111, 114]) = true := by decide +kernel
theorem am_lt22 : am_lk1 ("LockOrchestra$HallReader", 58, "player", [112, 108, 97, 121, 101, 114]) = true := by decide +kernel
theorem am_lt23 : am_lk1 ("LockOrchestra$HallReader", 155, "plays", [112, 108, 97, 121, 115]) = true := by decide +kernel
theorem am_lt24 : am_lk1 ("LockOrchestra$HallReader", 63, "rust", [114, 117, 115, 116]) = true := by decide +kernel
theorem am_lt25 : am_lk1 ("LockOrchestra$Question", 65, "first", [102, 105, 114, 115, 116]) = true := by decide +kernel
theorem am_lt26 : am_lk1 ("LockOrchestra$Question", 71, "last", [108, 97, 115, 116]) = true := by decide +kernel
theorem am_lt27 : am_lk1 ("LockOrchestra$Question", 73, "often", [111, 102, 116, 101, 110]) = true := by decide +kernel
theorem am_lt28 : am_lk1 ("LockOrchestra$Question", 75, "total", [116, 111, 116, 97, 108]) = true := by decide +kernel
theorem am_lt29 : am_lk1 ("LockOrchestra$Question", 77, "most", [109, 111, 115, 116]) = true := by decide +kernel
theorem am_lt30 : am_lk1 ("LockOrchestra$Question", 79, "least", [108, 101, 97, 115, 116]) = true := by decide +kernel
theorem am_lit_ok : ∀ r ∈ am_lit, am_lk1 r = true := (List.forall_mem_cons.mpr ⟨am_lt0, (List.forall_mem_cons.mpr ⟨am_lt1, (List.forall_mem_cons.mpr ⟨am_lt2, (List.forall_mem_cons.mpr ⟨am_lt3, (List.forall_mem_cons.mpr ⟨am_lt4, (List.forall_mem_cons.mpr ⟨am_lt5, (List.forall_mem_cons.mpr ⟨am_lt6, (List.forall_mem_cons.mpr ⟨am_lt7, (List.forall_mem_cons.mpr ⟨am_lt8, (List.forall_mem_cons.mpr ⟨am_lt9, (List.forall_mem_cons.mpr ⟨am_lt10, (List.forall_mem_cons.mpr ⟨am_lt11, (List.forall_mem_cons.mpr ⟨am_lt12, (List.forall_mem_cons.mpr ⟨am_lt13, (List.forall_mem_cons.mpr ⟨am_lt14, (List.forall_mem_cons.mpr ⟨am_lt15, (List.forall_mem_cons.mpr ⟨am_lt16, (List.forall_mem_cons.mpr ⟨am_lt17, (List.forall_mem_cons.mpr ⟨am_lt18, (List.forall_mem_cons.mpr ⟨am_lt19, (List.forall_mem_cons.mpr ⟨am_lt20, (List.forall_mem_cons.mpr ⟨am_lt21, (List.forall_mem_cons.mpr ⟨am_lt22, (List.forall_mem_cons.mpr ⟨am_lt23, (List.forall_mem_cons.mpr ⟨am_lt24, (List.forall_mem_cons.mpr ⟨am_lt25, (List.forall_mem_cons.mpr ⟨am_lt26, (List.forall_mem_cons.mpr ⟨am_lt27, (List.forall_mem_cons.mpr ⟨am_lt28, (List.forall_mem_cons.mpr ⟨am_lt29, (List.forall_mem_cons.mpr ⟨am_lt30, (fun _ h => absurd h List.not_mem_nil)⟩)⟩)⟩)⟩)⟩)⟩)⟩)⟩)⟩)⟩)⟩)⟩)⟩)⟩)⟩)⟩)⟩)⟩)⟩)⟩)⟩)⟩)⟩)⟩)⟩)⟩)⟩)⟩)⟩)⟩)⟩)
theorem am_aoM : Cond.arrayOver (.array .int) ∈ lw_tbl := am_at_mem (p := 1199) rfl
theorem am_lsC : Cond.laysStatic "java/lang/String" "COMPACT_STRINGS" "Z" ∈ lw_tbl := am_at_mem (p := 2179) rfl
theorem am_lsM : Cond.laysStatic "LockOrchestra" "MOST_OF_KIND" "[I" ∈ lw_tbl := am_at_mem (p := 2232) rfl
theorem am_inS : Cond.initialized "java/lang/String" ∈ lw_tbl := am_at_mem (p := 1016) rfl
theorem am_inO : Cond.initialized "LockOrchestra" ∈ lw_tbl := am_at_mem (p := 1001) rfl
theorem am_fnM : Cond.fieldLinkNest "LockOrchestra$Hall" 91 "LockOrchestra" "MOST_OF_KIND" "[I" "LockOrchestra" ∈ lw_tbl := am_at_mem (p := 2231) rfl
theorem am_nst_in : ∀ q ∈ am_ns0, Cond.methodLinkNest q.1 q.2.1 q.2.2.1 q.2.2.2 ∈ lw_tbl := (List.forall_mem_cons.mpr ⟨am_at_mem (p := 3115) rfl, (List.forall_mem_cons.mpr ⟨am_at_mem (p := 4009) rfl, (List.forall_mem_cons.mpr ⟨am_at_mem (p := 1220) rfl, (List.forall_mem_cons.mpr ⟨am_at_mem (p := 3033) rfl, (List.forall_mem_cons.mpr ⟨am_at_mem (p := 2230) rfl, (List.forall_mem_cons.mpr ⟨am_at_mem (p := 5066) rfl, (List.forall_mem_cons.mpr ⟨am_at_mem (p := 5080) rfl, (List.forall_mem_cons.mpr ⟨am_at_mem (p := 4149) rfl, (List.forall_mem_cons.mpr ⟨am_at_mem (p := 4159) rfl, (List.forall_mem_cons.mpr ⟨am_at_mem (p := 1103) rfl, (List.forall_mem_cons.mpr ⟨am_at_mem (p := 4208) rfl, (List.forall_mem_cons.mpr ⟨am_at_mem (p := 4209) rfl, (List.forall_mem_cons.mpr ⟨am_at_mem (p := 3204) rfl, (List.forall_mem_cons.mpr ⟨am_at_mem (p := 3232) rfl, (List.forall_mem_cons.mpr ⟨am_at_mem (p := 2108) rfl, (List.forall_mem_cons.mpr ⟨am_at_mem (p := 1032) rfl, (List.forall_mem_cons.mpr ⟨am_at_mem (p := 1137) rfl, (List.forall_mem_cons.mpr ⟨am_at_mem (p := 1165) rfl, (List.forall_mem_cons.mpr ⟨am_at_mem (p := 1178) rfl, (List.forall_mem_cons.mpr ⟨am_at_mem (p := 1194) rfl, (List.forall_mem_cons.mpr ⟨am_at_mem (p := 1215) rfl, (fun _ h => absurd h List.not_mem_nil)⟩)⟩)⟩)⟩)⟩)⟩)⟩)⟩)⟩)⟩)⟩)⟩)⟩)⟩)⟩)⟩)⟩)⟩)⟩)⟩)⟩)
theorem am_cl_inst : ∀ r ∈ am_cl, Cond.instantiable r.1 r.2.2 ∈ lw_tbl := (List.forall_mem_cons.mpr ⟨am_at_mem (p := 1102) rfl, (List.forall_mem_cons.mpr ⟨am_at_mem (p := 1214) rfl, (List.forall_mem_cons.mpr ⟨am_at_mem (p := 1070) rfl, (List.forall_mem_cons.mpr ⟨am_at_mem (p := 1177) rfl, (List.forall_mem_cons.mpr ⟨am_at_mem (p := 1164) rfl, (List.forall_mem_cons.mpr ⟨am_at_mem (p := 1096) rfl, (List.forall_mem_cons.mpr ⟨am_at_mem (p := 1136) rfl, (List.forall_mem_cons.mpr ⟨am_at_mem (p := 1193) rfl, (List.forall_mem_cons.mpr ⟨am_at_mem (p := 1031) rfl, (List.forall_mem_cons.mpr ⟨am_at_mem (p := 1076) rfl, (List.forall_mem_cons.mpr ⟨am_at_mem (p := 1045) rfl, (List.forall_mem_cons.mpr ⟨am_at_mem (p := 1023) rfl, (List.forall_mem_cons.mpr ⟨am_at_mem (p := 5232) rfl, (fun _ h => absurd h List.not_mem_nil)⟩)⟩)⟩)⟩)⟩)⟩)⟩)⟩)⟩)⟩)⟩)⟩)⟩)
end
section
theorem am_lit_st (args : Array Value) (s : State) (hg : (Jvm.Cond.and given_1 narrow_1).before args s = true) (B : Nat) (hB : ∀ a : Nat, a < s.heap.size → ¬ B ≤ a) : ∃ ad : Nat → Nat × Nat, ∀ (i : Nat) (r : String × Nat × String × List Int32), am_lit[i]? = some r → (Term.string r.1 r.2.1).eval args s none [] s = some (.ref (ad i).1) ∧ va_O "java/lang/String" (ad i).1 (fun q => B ≤ q) s s.heap ∧ va_OF "java/lang/String" "coder" "B" (.int 0) (ad i).1 (fun q => B ≤ q) s s.heap ∧ va_OF "java/lang/String" "value" "[B" (.ref (ad i).2) (ad i).1 (fun q => B ≤ q) s s.heap ∧ va_T .byte (ad i).2 r.2.2.2.length (fun j => .int (r.2.2.2.getD j 0)) (fun q => B ≤ q) s s.heap := by
  have hs := flat_of_before _ hg
  have h0 : ∀ i : Nat, ∃ q : Nat × Nat, ∀ (r : String × Nat × String × List Int32), am_lit[i]? = some r → (Term.string r.1 r.2.1).eval args s none [] s = some (.ref q.1) ∧ va_O "java/lang/String" q.1 (fun q => B ≤ q) s s.heap ∧ va_OF "java/lang/String" "coder" "B" (.int 0) q.1 (fun q => B ≤ q) s s.heap ∧ va_OF "java/lang/String" "value" "[B" (.ref q.2) q.1 (fun q => B ≤ q) s s.heap ∧ va_T .byte q.2 r.2.2.2.length (fun j => .int (r.2.2.2.getD j 0)) (fun q => B ≤ q) s s.heap := by
    intro i
    cases hi : am_lit[i]? with
    | none => exact ⟨(0, 0), fun r h => by cases h⟩
    | some r =>
      have hk := am_lit_ok r (List.mem_of_getElem? hi)
      simp only [am_lk1, Bool.and_eq_true, decide_eq_true_eq, List.all_eq_true] at hk
      obtain ⟨⟨hk1, hk2⟩, -⟩ := hk
      have hw : ∀ w ∈ am_lc r.1 r.2.1 r.2.2.2, w.before args s = true := fun w hw => hs w (hk1 w hw)
      obtain ⟨a, cc, cell, kA, q1, q2, q3, q4, q5, q6, -⟩ := Cond.exactly_spec (args := args) (first := s) (o := none) (s := s) (idx := []) (t := .string r.1 r.2.1) (cls := "java/lang/String") (hw _ (by simp [am_lc]))
      obtain ⟨t, ht, hT⟩ := va_Tof (tm := am_tv r.1 r.2.1) (ty := .byte) (N := r.2.2.2.length) (f := fun j => .int (r.2.2.2.getD j 0)) (A := fun q => B ≤ q) hk2 (hw _ (by simp [am_lc])) (va_eqt (hw _ (by simp [am_lc]))) (fun j hj => va_eqt (hw _ (List.mem_append_right _ (List.mem_map.mpr ⟨j, List.mem_range.mpr hj, rfl⟩)))) hB
      refine ⟨(a, t), fun r' hr' => ?_⟩
      cases hr'
      exact ⟨q1, ⟨cell, q3, q5, by rw [q6]; exact q2, hB a (Array.getElem?_eq_some_iff.mp q3).1⟩, vk_OFof q1 (va_eqt (hw _ (by simp [am_lc]))) hB, vk_OFof q1 ht hB, hT⟩
  obtain ⟨ad, had⟩ := Classical.axiomOfChoice h0
  exact ⟨ad, had⟩
theorem am_ao_of {args : Array Value} {s : State} (h : (Cond.arrayOver (.array .int)).before args s = true) : am_AO s := by
  have h : (Cond.arrayOver (.array .int)).holds args s none s [] = true := h
  simp only [Cond.holds, Cond.value, beq_iff_eq] at h
  cases hc : s.vm.findClass (FieldType.array .int).toString with
  | none => simp [hc] at h
  | some comp =>
    simp only [hc, Option.bind_some, Option.bind_eq_some_iff, Option.map_eq_some_iff] at h
    obtain ⟨c, hi, k, hk, hb⟩ := h
    obtain ⟨hlt, hp, -⟩ := Array.findIdx?_eq_some_iff_getElem.mp hi
    have hkk : s.vm.classes[c] = k := (Array.getElem?_eq_some_iff.mp hk).2
    rw [hkk] at hp
    cases hkind : k.kind with
    | array component ty =>
      rw [hkind] at hb hp
      simp at hb hp
      exact ⟨comp, c, k, hc, hk, by rw [hkind, hp, hb.1], hb.2⟩
    | _ => rw [hkind] at hb; simp at hb
theorem am_K0 {args : Array Value} {s : State} (hts : ∀ w ∈ lw_tbl, w.before args s = true) : ∃ (D : va_G) (cA : Nat → ClassId), va_K D am_cl (am_tys cA) s := by
  have hg : ∀ w ∈ am_G, w.before args s = true := fun w hw => hts w (List.mem_filter.mp hw).1
  have hcls : ∀ ci : Nat, ∃ q : ClassId × (Nat → Nat), ∀ r : vw_C, am_cl[ci]? = some r → u_Kn s r.1 r.2.1 r.2.2 q.1 q.2 := by
    intro ci
    cases hr : am_cl[ci]? with
    | none => exact ⟨(0, fun _ => 0), fun r h => by cases h⟩
    | some r =>
      obtain ⟨ty, hty⟩ : ∃ ty, am_cy[ci]? = some ty := ⟨_, List.getElem?_eq_getElem (show ci < am_cy.length from (List.getElem?_eq_some_iff.mp hr).1)⟩
      obtain ⟨-, -, hlay⟩ := am_cl_ty ci r ty hr hty
      obtain ⟨c0, iS0, hKn⟩ := u_known (C := r.1) (T := r.2.1) (N := r.2.2) (n := r.2.2) hg hlay (hts _ (am_cl_inst r (List.mem_of_getElem? hr)))
      exact ⟨(c0, iS0), fun r' hr' => by cases hr'; exact hKn⟩
  obtain ⟨qc, hqc⟩ := Classical.axiomOfChoice hcls
  obtain ⟨cI, kI, compI, fI, gI, tI⟩ := Cond.arrayClass_spec (args := args) (first := s) (o := none) (s := s) (idx := []) (hg _ am_acI)
  obtain ⟨cJ, kJ, compJ, fJ, gJ, tJ⟩ := Cond.arrayClass_spec (args := args) (first := s) (o := none) (s := s) (idx := []) (hg _ am_acJ)
  obtain ⟨cC, kC, compC, fC, gC, tC⟩ := Cond.arrayClass_spec (args := args) (first := s) (o := none) (s := s) (idx := []) (hg _ am_acC)
  obtain ⟨comp, cG, kG, f1, f2, f3, f4⟩ := am_ao_of (hts _ am_aoM)
  refine ⟨(fun k => (qc k).1, fun k => (qc k).2), fun t => match t with | 0 => cI | 1 => cJ | 2 => cC | _ => cG, fun k q hq => hqc k q hq, fun k q hq => ?_⟩
  match k, hq with
  | 0, hq => cases hq; exact ⟨fun n z => ⟨fun k h => (by cases h), kI, gI, compI, tI⟩, fI⟩
  | 1, hq => cases hq; exact ⟨fun n z => ⟨fun k h => (by cases h), kJ, gJ, compJ, tJ⟩, fJ⟩
  | 2, hq => cases hq; exact ⟨fun n z => ⟨fun k h => (by cases h), kC, gC, compC, tC⟩, fC⟩
  | 3, hq => cases hq; exact ⟨fun n z => ⟨fun k h => (by cases h), kG, f2, comp, f3⟩, f4⟩
  | k + 4, hq => simp [am_tys] at hq
theorem am_RO0 {p : Program} {s : State} {m : MethodId} {meth : Method} {c : Code} {b L : Nat} {xs : Nat → Int32} (C0 : lw_At p s m meth c b L xs) : ∃ ra : Nat → Nat, ra 2000001 = b ∧ am_RO s.heap.size ra (am_E L xs) s := by
  obtain ⟨hx, hb, hr, hml, hown, hts, hX, hbl, hlocks, hgv⟩ := C0
  have hB : ∀ a : Nat, a < s.heap.size → ¬ s.heap.size ≤ a := fun a h => Nat.not_le.mpr h
  obtain ⟨ad, had⟩ := am_lit_st _ s hgv s.heap.size hB
  have hs := flat_of_before _ hgv
  obtain ⟨tk, htk, hTk⟩ := va_Tof (tm := .static "LockOrchestra" "MOST_OF_KIND" "[I") (ty := .int) (N := 4) (f := fun j => .int (([4, 6, 6, 5] : List Int32).getD j 0)) (A := fun q => s.heap.size ≤ q) (by decide) (hs _ (by decide +kernel)) (va_eqt (hs _ (by decide +kernel))) (fun j hj => by
    match j, hj with
    | 0, _ => exact va_eqt (hs _ (by decide +kernel))
    | 1, _ => exact va_eqt (hs _ (by decide +kernel))
    | 2, _ => exact va_eqt (hs _ (by decide +kernel))
    | 3, _ => exact va_eqt (hs _ (by decide +kernel))
    | j + 4, hj => omega) hB
  have hT : va_T .int b L (fun j => .int (xs j)) (fun q => s.heap.size ≤ q) s s.heap := by
    obtain ⟨scr, h1, h2, h3, h4, h5⟩ := hX
    exact ⟨scr, h1, h2, h3, by omega, by rw [h4], h5, hB b hbl⟩
  obtain ⟨ra, hra⟩ : ∃ ra : Nat → Nat, ra = fun k => if k = 2000001 then b else if k = 2000000 then tk else if (k - 1000000) % 2 = 0 then (ad ((k - 1000000) / 2)).1 else (ad ((k - 1000000) / 2)).2 := ⟨_, rfl⟩
  have hlen : am_lit.length ≤ 100 := by decide
  have e1 : ∀ i, i < am_lit.length → ra (1000000 + 2 * i) = (ad i).1 := by
    intro i hi
    rw [hra]
    show (if _ then _ else _) = _
    rw [if_neg (by omega), if_neg (by omega), if_pos (by omega), show (1000000 + 2 * i - 1000000) / 2 = i by omega]
  have e2 : ∀ i, i < am_lit.length → ra (1000000 + 2 * i + 1) = (ad i).2 := by
    intro i hi
    rw [hra]
    show (if _ then _ else _) = _
    rw [if_neg (by omega), if_neg (by omega), if_neg (by omega), show (1000000 + 2 * i + 1 - 1000000) / 2 = i by omega]
  have e3 : ra 2000001 = b := by rw [hra]; rfl
  have e4 : ra 2000000 = tk := by rw [hra]; rfl
  refine ⟨ra, e3, fun k r hk => ?_, fun i hi => ?_, fun i r hr => ?_, va_Zof (hts _ am_lsC) (hts _ am_inS) (va_eqi (hs _ (by decide +kernel))) hB, ?_, fun q hq => ?_, ?_, am_ao_of (hts _ am_aoM)⟩
  · unfold am_E at hk
    by_cases k1 : k = 2000001
    · rw [if_pos k1] at hk
      cases hk
      rw [k1, e3]
      exact Or.inl ⟨rfl, hT⟩
    · rw [if_neg k1] at hk
      by_cases k2 : k = 2000000
      · rw [if_pos k2] at hk
        cases hk
        rw [k2, e4]
        exact Or.inl ⟨rfl, hTk⟩
      · rw [if_neg k2] at hk
        by_cases k3 : 1000000 ≤ k ∧ (k - 1000000) % 2 = 1
        · rw [if_pos k3] at hk
          obtain ⟨i, hi⟩ : ∃ i, i = (k - 1000000) / 2 := ⟨_, rfl⟩
          rw [← hi] at hk
          have hki : k = 1000000 + 2 * i + 1 := by omega
          cases hr : am_lit[i]? with
          | none => rw [hr] at hk; cases hk
          | some q =>
            rw [hr] at hk
            cases hk
            rw [hki, e2 i (List.getElem?_eq_some_iff.mp hr).1]
            exact Or.inr ⟨rfl, (had i q hr).2.2.2.2⟩
        · rw [if_neg k3] at hk
          cases hk
  · have := had i _ (List.getElem?_eq_getElem hi)
    rw [e1 i hi, e2 i hi]
    exact ⟨this.2.1, this.2.2.1, this.2.2.2.1⟩
  · have hi : i < am_lit.length := (List.getElem?_eq_some_iff.mp hr).1
    rw [e1 i hi]
    have hk := am_lit_ok r (List.mem_of_getElem? hr)
    simp only [am_lk1, Bool.and_eq_true, decide_eq_true_eq] at hk
    exact vk_R.of (hts _ (List.mem_append_right _ hk.2)) (had i r hr).1
  · rw [e4]
    exact va_Zof (hts _ am_lsM) (hts _ am_inO) htk hB
  · exact va_Nw.of rfl (hts _ (am_nst_in _ hq))
  · exact va_Nw.of rfl (hts _ am_fnM)
theorem am_start {p : Program} {e : Env} {s : State} {m : MethodId} {below : List Frame} {meth : Method} {c : Code} (l : Launch) {b L : Nat} {xs : Nat → Int32} (C0 : lw_At p s m meth c b L xs) {fu : Nat} {hp1 : am_H} (hrun : am_run (am_E L xs) fu 2000 am_mL 0 [(0, .ref 2000001)] [] [] = some (some (.int 1), hp1)) (h1 : hp1.length ≤ room_1.cells) (h2 : am_sz hp1 ≤ room_1.slots) : W p l e room_1 s m #[Value.ref b] below meth c s.heap [] 0 0 (lw_Z below #[Value.ref b] s) (entryFrame m ([Value.ref b] : List Value).toArray 4) := by
  obtain ⟨ra, e3, hro⟩ := am_RO0 C0
  obtain ⟨hx, hb, hr, hml, hown, hts, hX, hbl, hlocks, hgv⟩ := C0
  obtain ⟨D, cA, hK⟩ := am_K0 hts
  have F : am_Fr D s.heap.size ra cA (am_E L xs) 0 2000 am_mL p room_1 s m #[Value.ref b] meth c :=
    ⟨hx, hb, hml, hown, fun w hw => hts w (List.mem_filter.mp hw).1, hK, hro, hr, hlocks, (fun h => by cases h), rfl, by decide, by decide, am_dL, by decide, by decide⟩
  have A := am_run_ok l D s.heap.size ra cA (am_E L xs) fu 2000 am_mL 0 _ _ _ _ _ hrun 0 hp1.length (am_sz hp1) p e room_1 s m #[Value.ref b] below meth c (lw_Z below #[Value.ref b] s) F (Nat.le_refl _) (Nat.le_refl _) (Nat.le_refl _) (fun pc' i ls' st' hi hret => by
    intro H locs lsA cells slots hP hS hl hc hs hnn
    obtain ⟨nn, hdg0, hn⟩ := am_dec am_dL hi
    have hcl : cells + 0 = hp1.length := hc
    have hsl : slots + am_sz hp1 ≤ room_1.slots + am_sz hp1 := hs
    unfold am_ret at hret
    split at hret
    · split at hret
      · cases hret
      · cases hret
    · obtain rfl : nn = 1 := hn.resolve_left (by simp [am_ln])
      split at hret
      · next x ty hrt =>
        split at hret
        · cases hret
          refine va_forget (fun q hq => hS.2.2 q hq) ?_
          refine W.widen (k := room_1.cells) (n := room_1.slots) (by omega) (by omega) ?_
          exact lw_ret hx hb hr hlocks hdg0
        · cases hret
      · cases hret
    · split at hret
      · cases hret
      · cases hret
    · split at hret
      · cases hret
      · cases hret
      · cases hret
    · cases hret)
  rw [lg_entry_eq]
  have hl := lv_entry ([.ref b] : List Value) (n := 4) (Nat.le_of_ble_eq_true rfl)
  refine A s.heap [] _ 0 0 (fun k q h => by simp [am_w] at h) va_S.rf ?_ rfl (by show 0 + am_sz hp1 ≤ room_1.slots + am_sz []; rw [show am_sz [] = 0 from rfl]; omega) (by omega)
  have e5 : am_q s.heap.size ra [(0, .ref 2000001)] = [(0, .ref b)] := by
    show [(0, am_v s.heap.size ra (.ref 2000001))] = _
    rw [am_v_hi (by decide), e3]
  show lv_has _ _ (am_q s.heap.size ra [(0, .ref 2000001)])
  rw [e5]
  exact hl
end
