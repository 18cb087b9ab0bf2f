section
-- ===== PART A: goes FIRST, ahead of the names: the tables' words, and 'selects' of the private methods out of them =====
/-- a private method of a class that the tables say can be made, by its rows of tables_1 -/
def lw_okq (q : MethodName × Nat) : Prop := (q.1.cls ≠ "java/lang/invoke/MethodHandle" ∧ q.1.cls ≠ "java/lang/invoke/VarHandle") ∧ Cond.instantiable q.1.cls q.2 ∈ tables_1 ∧ Cond.privateMethod q.1 ∈ tables_1 ∧ Cond.instanceMethod q.1 ∈ tables_1
theorem lw_p0 : lw_okq (⟨"TermReckoner", "currentStatus", "()I"⟩, 11) := ⟨⟨by decide +kernel, by decide +kernel⟩, List.mem_of_getElem? (i := 32) (by decide +kernel), List.mem_of_getElem? (i := 271) (by decide +kernel), List.mem_of_getElem? (i := 272) (by decide +kernel)⟩
theorem lw_p1 : lw_okq (⟨"TermReckoner", "custodyEnd", "()I"⟩, 11) := ⟨⟨by decide +kernel, by decide +kernel⟩, List.mem_of_getElem? (i := 32) (by decide +kernel), List.mem_of_getElem? (i := 275) (by decide +kernel), List.mem_of_getElem? (i := 276) (by decide +kernel)⟩
theorem lw_p2 : lw_okq (⟨"TermReckoner", "greatestRelease", "(II)I"⟩, 11) := ⟨⟨by decide +kernel, by decide +kernel⟩, List.mem_of_getElem? (i := 32) (by decide +kernel), List.mem_of_getElem? (i := 279) (by decide +kernel), List.mem_of_getElem? (i := 280) (by decide +kernel)⟩
theorem lw_p3 : lw_okq (⟨"TermReckoner", "recallIsRunning", "()Z"⟩, 11) := ⟨⟨by decide +kernel, by decide +kernel⟩, List.mem_of_getElem? (i := 32) (by decide +kernel), List.mem_of_getElem? (i := 298) (by decide +kernel), List.mem_of_getElem? (i := 299) (by decide +kernel)⟩
theorem lw_p4 : lw_okq (⟨"TermReckoner", "recallsMade", "()I"⟩, 11) := ⟨⟨by decide +kernel, by decide +kernel⟩, List.mem_of_getElem? (i := 32) (by decide +kernel), List.mem_of_getElem? (i := 302) (by decide +kernel), List.mem_of_getElem? (i := 303) (by decide +kernel)⟩
theorem lw_p5 : lw_okq (⟨"TermReckoner", "latestRecallEnd", "()I"⟩, 11) := ⟨⟨by decide +kernel, by decide +kernel⟩, List.mem_of_getElem? (i := 32) (by decide +kernel), List.mem_of_getElem? (i := 306) (by decide +kernel), List.mem_of_getElem? (i := 307) (by decide +kernel)⟩
theorem lw_p6 : lw_okq (⟨"TermReckoner", "greatestEnd", "()I"⟩, 11) := ⟨⟨by decide +kernel, by decide +kernel⟩, List.mem_of_getElem? (i := 32) (by decide +kernel), List.mem_of_getElem? (i := 319) (by decide +kernel), List.mem_of_getElem? (i := 320) (by decide +kernel)⟩
theorem lw_p7 : lw_okq (⟨"java/lang/Throwable", "fillInStackTrace", "(I)Ljava/lang/Throwable;"⟩, 6) := ⟨⟨by decide +kernel, by decide +kernel⟩, List.mem_of_getElem? (i := 580) (by decide +kernel), List.mem_of_getElem? (i := 578) (by decide +kernel), List.mem_of_getElem? (i := 579) (by decide +kernel)⟩
theorem lw_p8 : lw_okq (⟨"TermReckoner", "pastStatus", "(I)I"⟩, 11) := ⟨⟨by decide +kernel, by decide +kernel⟩, List.mem_of_getElem? (i := 32) (by decide +kernel), List.mem_of_getElem? (i := 688) (by decide +kernel), List.mem_of_getElem? (i := 689) (by decide +kernel)⟩
theorem lw_p9 : lw_okq (⟨"TermReckoner", "writeRun", "(II)V"⟩, 11) := ⟨⟨by decide +kernel, by decide +kernel⟩, List.mem_of_getElem? (i := 32) (by decide +kernel), List.mem_of_getElem? (i := 696) (by decide +kernel), List.mem_of_getElem? (i := 697) (by decide +kernel)⟩
theorem lw_p10 : lw_okq (⟨"TermReckoner", "termIsConsistent", "(I)Z"⟩, 11) := ⟨⟨by decide +kernel, by decide +kernel⟩, List.mem_of_getElem? (i := 32) (by decide +kernel), List.mem_of_getElem? (i := 728) (by decide +kernel), List.mem_of_getElem? (i := 729) (by decide +kernel)⟩
theorem lw_p11 : lw_okq (⟨"TermReckoner", "releaseIn", "(I)I"⟩, 11) := ⟨⟨by decide +kernel, by decide +kernel⟩, List.mem_of_getElem? (i := 32) (by decide +kernel), List.mem_of_getElem? (i := 732) (by decide +kernel), List.mem_of_getElem? (i := 733) (by decide +kernel)⟩
theorem lw_p12 : lw_okq (⟨"TermReckoner", "mergedCredit", "(I)I"⟩, 11) := ⟨⟨by decide +kernel, by decide +kernel⟩, List.mem_of_getElem? (i := 32) (by decide +kernel), List.mem_of_getElem? (i := 736) (by decide +kernel), List.mem_of_getElem? (i := 737) (by decide +kernel)⟩
theorem lw_p13 : lw_okq (⟨"TermReckoner", "unservedDays", "(II)I"⟩, 11) := ⟨⟨by decide +kernel, by decide +kernel⟩, List.mem_of_getElem? (i := 32) (by decide +kernel), List.mem_of_getElem? (i := 752) (by decide +kernel), List.mem_of_getElem? (i := 753) (by decide +kernel)⟩
theorem lw_p14 : lw_okq (⟨"TermReckoner", "servedRelease", "(I)I"⟩, 11) := ⟨⟨by decide +kernel, by decide +kernel⟩, List.mem_of_getElem? (i := 32) (by decide +kernel), List.mem_of_getElem? (i := 773) (by decide +kernel), List.mem_of_getElem? (i := 774) (by decide +kernel)⟩
theorem lw_p15 : lw_okq (⟨"TermReckoner", "checkRoomForTerm", "()V"⟩, 11) := ⟨⟨by decide +kernel, by decide +kernel⟩, List.mem_of_getElem? (i := 32) (by decide +kernel), List.mem_of_getElem? (i := 913) (by decide +kernel), List.mem_of_getElem? (i := 914) (by decide +kernel)⟩
def lw_privs_1 : List (MethodName × Nat) := [(⟨"TermReckoner", "currentStatus", "()I"⟩, 11), (⟨"TermReckoner", "custodyEnd", "()I"⟩, 11), (⟨"TermReckoner", "greatestRelease", "(II)I"⟩, 11), (⟨"TermReckoner", "recallIsRunning", "()Z"⟩, 11), (⟨"TermReckoner", "recallsMade", "()I"⟩, 11), (⟨"TermReckoner", "latestRecallEnd", "()I"⟩, 11), (⟨"TermReckoner", "greatestEnd", "()I"⟩, 11), (⟨"java/lang/Throwable", "fillInStackTrace", "(I)Ljava/lang/Throwable;"⟩, 6), (⟨"TermReckoner", "pastStatus", "(I)I"⟩, 11), (⟨"TermReckoner", "writeRun", "(II)V"⟩, 11), (⟨"TermReckoner", "termIsConsistent", "(I)Z"⟩, 11), (⟨"TermReckoner", "releaseIn", "(I)I"⟩, 11), (⟨"TermReckoner", "mergedCredit", "(I)I"⟩, 11), (⟨"TermReckoner", "unservedDays", "(II)I"⟩, 11), (⟨"TermReckoner", "servedRelease", "(I)I"⟩, 11), (⟨"TermReckoner", "checkRoomForTerm", "()V"⟩, 11)]
theorem lw_r1 : ∀ q ∈ lw_privs_1, lw_okq q := List.forall_mem_cons.mpr ⟨lw_p0, List.forall_mem_cons.mpr ⟨lw_p1, List.forall_mem_cons.mpr ⟨lw_p2, List.forall_mem_cons.mpr ⟨lw_p3, List.forall_mem_cons.mpr ⟨lw_p4, List.forall_mem_cons.mpr ⟨lw_p5, List.forall_mem_cons.mpr ⟨lw_p6, List.forall_mem_cons.mpr ⟨lw_p7, List.forall_mem_cons.mpr ⟨lw_p8, List.forall_mem_cons.mpr ⟨lw_p9, List.forall_mem_cons.mpr ⟨lw_p10, List.forall_mem_cons.mpr ⟨lw_p11, List.forall_mem_cons.mpr ⟨lw_p12, List.forall_mem_cons.mpr ⟨lw_p13, List.forall_mem_cons.mpr ⟨lw_p14, List.forall_mem_cons.mpr ⟨lw_p15, fun _ h => absurd h List.not_mem_nil⟩⟩⟩⟩⟩⟩⟩⟩⟩⟩⟩⟩⟩⟩⟩⟩
theorem lw_p16 : lw_okq (⟨"TermReckoner", "addTerm", "(IIII)I"⟩, 11) := ⟨⟨by decide +kernel, by decide +kernel⟩, List.mem_of_getElem? (i := 32) (by decide +kernel), List.mem_of_getElem? (i := 917) (by decide +kernel), List.mem_of_getElem? (i := 918) (by decide +kernel)⟩
theorem lw_p17 : lw_okq (⟨"TermReckoner", "settle", "()V"⟩, 11) := ⟨⟨by decide +kernel, by decide +kernel⟩, List.mem_of_getElem? (i := 32) (by decide +kernel), List.mem_of_getElem? (i := 925) (by decide +kernel), List.mem_of_getElem? (i := 926) (by decide +kernel)⟩
theorem lw_p18 : lw_okq (⟨"TermReckoner", "markedCredit", "(I)I"⟩, 11) := ⟨⟨by decide +kernel, by decide +kernel⟩, List.mem_of_getElem? (i := 32) (by decide +kernel), List.mem_of_getElem? (i := 937) (by decide +kernel), List.mem_of_getElem? (i := 938) (by decide +kernel)⟩
theorem lw_p19 : lw_okq (⟨"TermReckoner", "checkTerm", "(I)V"⟩, 11) := ⟨⟨by decide +kernel, by decide +kernel⟩, List.mem_of_getElem? (i := 32) (by decide +kernel), List.mem_of_getElem? (i := 961) (by decide +kernel), List.mem_of_getElem? (i := 962) (by decide +kernel)⟩
theorem lw_p20 : lw_okq (⟨"TermReckoner", "checkStandingTerm", "(I)V"⟩, 11) := ⟨⟨by decide +kernel, by decide +kernel⟩, List.mem_of_getElem? (i := 32) (by decide +kernel), List.mem_of_getElem? (i := 1002) (by decide +kernel), List.mem_of_getElem? (i := 1003) (by decide +kernel)⟩
theorem lw_p21 : lw_okq (⟨"TermReckoner", "termsUnreleased", "()I"⟩, 11) := ⟨⟨by decide +kernel, by decide +kernel⟩, List.mem_of_getElem? (i := 32) (by decide +kernel), List.mem_of_getElem? (i := 1020) (by decide +kernel), List.mem_of_getElem? (i := 1021) (by decide +kernel)⟩
theorem lw_p22 : lw_okq (⟨"TermReckoner", "checkAward", "(I)V"⟩, 11) := ⟨⟨by decide +kernel, by decide +kernel⟩, List.mem_of_getElem? (i := 32) (by decide +kernel), List.mem_of_getElem? (i := 1035) (by decide +kernel), List.mem_of_getElem? (i := 1036) (by decide +kernel)⟩
theorem lw_p23 : lw_okq (⟨"TermReckoner", "checkAnyTermStands", "()V"⟩, 11) := ⟨⟨by decide +kernel, by decide +kernel⟩, List.mem_of_getElem? (i := 32) (by decide +kernel), List.mem_of_getElem? (i := 1184) (by decide +kernel), List.mem_of_getElem? (i := 1185) (by decide +kernel)⟩
theorem lw_p24 : lw_okq (⟨"TermReckoner", "placeByRelease", "(I)I"⟩, 11) := ⟨⟨by decide +kernel, by decide +kernel⟩, List.mem_of_getElem? (i := 32) (by decide +kernel), List.mem_of_getElem? (i := 1213) (by decide +kernel), List.mem_of_getElem? (i := 1214) (by decide +kernel)⟩
theorem lw_p25 : lw_okq (⟨"TermReckoner", "comesBefore", "(II)Z"⟩, 11) := ⟨⟨by decide +kernel, by decide +kernel⟩, List.mem_of_getElem? (i := 32) (by decide +kernel), List.mem_of_getElem? (i := 1217) (by decide +kernel), List.mem_of_getElem? (i := 1218) (by decide +kernel)⟩
theorem lw_p26 : lw_okq (⟨"TermReckonerModel", "fails", "(I)Z"⟩, 42) := ⟨⟨by decide +kernel, by decide +kernel⟩, List.mem_of_getElem? (i := 1292) (by decide +kernel), List.mem_of_getElem? (i := 1442) (by decide +kernel), List.mem_of_getElem? (i := 1443) (by decide +kernel)⟩
theorem lw_p27 : lw_okq (⟨"TermReckonerModel", "isDay", "(I)Z"⟩, 42) := ⟨⟨by decide +kernel, by decide +kernel⟩, List.mem_of_getElem? (i := 1292) (by decide +kernel), List.mem_of_getElem? (i := 1458) (by decide +kernel), List.mem_of_getElem? (i := 1459) (by decide +kernel)⟩
theorem lw_p28 : lw_okq (⟨"TermReckonerModel", "splits", "(I)V"⟩, 42) := ⟨⟨by decide +kernel, by decide +kernel⟩, List.mem_of_getElem? (i := 1292) (by decide +kernel), List.mem_of_getElem? (i := 1463) (by decide +kernel), List.mem_of_getElem? (i := 1464) (by decide +kernel)⟩
theorem lw_p29 : lw_okq (⟨"TermReckonerModel", "later", "(II)I"⟩, 42) := ⟨⟨by decide +kernel, by decide +kernel⟩, List.mem_of_getElem? (i := 1292) (by decide +kernel), List.mem_of_getElem? (i := 1479) (by decide +kernel), List.mem_of_getElem? (i := 1480) (by decide +kernel)⟩
theorem lw_p30 : lw_okq (⟨"TermReckonerModel", "releaseOfAll", "()I"⟩, 42) := ⟨⟨by decide +kernel, by decide +kernel⟩, List.mem_of_getElem? (i := 1292) (by decide +kernel), List.mem_of_getElem? (i := 1491) (by decide +kernel), List.mem_of_getElem? (i := 1492) (by decide +kernel)⟩
theorem lw_p31 : lw_okq (⟨"TermReckonerModel", "isIn", "(I)Z"⟩, 42) := ⟨⟨by decide +kernel, by decide +kernel⟩, List.mem_of_getElem? (i := 1292) (by decide +kernel), List.mem_of_getElem? (i := 1495) (by decide +kernel), List.mem_of_getElem? (i := 1496) (by decide +kernel)⟩
def lw_privs_2 : List (MethodName × Nat) := [(⟨"TermReckoner", "addTerm", "(IIII)I"⟩, 11), (⟨"TermReckoner", "settle", "()V"⟩, 11), (⟨"TermReckoner", "markedCredit", "(I)I"⟩, 11), (⟨"TermReckoner", "checkTerm", "(I)V"⟩, 11), (⟨"TermReckoner", "checkStandingTerm", "(I)V"⟩, 11), (⟨"TermReckoner", "termsUnreleased", "()I"⟩, 11), (⟨"TermReckoner", "checkAward", "(I)V"⟩, 11), (⟨"TermReckoner", "checkAnyTermStands", "()V"⟩, 11), (⟨"TermReckoner", "placeByRelease", "(I)I"⟩, 11), (⟨"TermReckoner", "comesBefore", "(II)Z"⟩, 11), (⟨"TermReckonerModel", "fails", "(I)Z"⟩, 42), (⟨"TermReckonerModel", "isDay", "(I)Z"⟩, 42), (⟨"TermReckonerModel", "splits", "(I)V"⟩, 42), (⟨"TermReckonerModel", "later", "(II)I"⟩, 42), (⟨"TermReckonerModel", "releaseOfAll", "()I"⟩, 42), (⟨"TermReckonerModel", "isIn", "(I)Z"⟩, 42)]
theorem lw_r2 : ∀ q ∈ lw_privs_2, lw_okq q := List.forall_mem_cons.mpr ⟨lw_p16, List.forall_mem_cons.mpr ⟨lw_p17, List.forall_mem_cons.mpr ⟨lw_p18, List.forall_mem_cons.mpr ⟨lw_p19, List.forall_mem_cons.mpr ⟨lw_p20, List.forall_mem_cons.mpr ⟨lw_p21, List.forall_mem_cons.mpr ⟨lw_p22, List.forall_mem_cons.mpr ⟨lw_p23, List.forall_mem_cons.mpr ⟨lw_p24, List.forall_mem_cons.mpr ⟨lw_p25, List.forall_mem_cons.mpr ⟨lw_p26, List.forall_mem_cons.mpr ⟨lw_p27, List.forall_mem_cons.mpr ⟨lw_p28, List.forall_mem_cons.mpr ⟨lw_p29, List.forall_mem_cons.mpr ⟨lw_p30, List.forall_mem_cons.mpr ⟨lw_p31, fun _ h => absurd h List.not_mem_nil⟩⟩⟩⟩⟩⟩⟩⟩⟩⟩⟩⟩⟩⟩⟩⟩
theorem lw_p32 : lw_okq (⟨"TermReckonerModel", "endOfRecall", "()I"⟩, 42) := ⟨⟨by decide +kernel, by decide +kernel⟩, List.mem_of_getElem? (i := 1292) (by decide +kernel), List.mem_of_getElem? (i := 1499) (by decide +kernel), List.mem_of_getElem? (i := 1500) (by decide +kernel)⟩
theorem lw_p33 : lw_okq (⟨"TermReckonerModel", "endOfAll", "()I"⟩, 42) := ⟨⟨by decide +kernel, by decide +kernel⟩, List.mem_of_getElem? (i := 1292) (by decide +kernel), List.mem_of_getElem? (i := 1503) (by decide +kernel), List.mem_of_getElem? (i := 1504) (by decide +kernel)⟩
theorem lw_p34 : lw_okq (⟨"TermReckonerModel", "isTermOf", "(III)Z"⟩, 42) := ⟨⟨by decide +kernel, by decide +kernel⟩, List.mem_of_getElem? (i := 1292) (by decide +kernel), List.mem_of_getElem? (i := 1511) (by decide +kernel), List.mem_of_getElem? (i := 1512) (by decide +kernel)⟩
theorem lw_p35 : lw_okq (⟨"TermReckonerModel", "imposes", "(IIII)I"⟩, 42) := ⟨⟨by decide +kernel, by decide +kernel⟩, List.mem_of_getElem? (i := 1292) (by decide +kernel), List.mem_of_getElem? (i := 1515) (by decide +kernel), List.mem_of_getElem? (i := 1516) (by decide +kernel)⟩
theorem lw_p36 : lw_okq (⟨"TermReckonerModel", "works", "()V"⟩, 42) := ⟨⟨by decide +kernel, by decide +kernel⟩, List.mem_of_getElem? (i := 1292) (by decide +kernel), List.mem_of_getElem? (i := 1519) (by decide +kernel), List.mem_of_getElem? (i := 1520) (by decide +kernel)⟩
theorem lw_p37 : lw_okq (⟨"TermReckonerModel", "worksTerm", "(I)V"⟩, 42) := ⟨⟨by decide +kernel, by decide +kernel⟩, List.mem_of_getElem? (i := 1292) (by decide +kernel), List.mem_of_getElem? (i := 1523) (by decide +kernel), List.mem_of_getElem? (i := 1524) (by decide +kernel)⟩
theorem lw_p38 : lw_okq (⟨"TermReckonerModel", "remandOf", "(I)I"⟩, 42) := ⟨⟨by decide +kernel, by decide +kernel⟩, List.mem_of_getElem? (i := 1292) (by decide +kernel), List.mem_of_getElem? (i := 1530) (by decide +kernel), List.mem_of_getElem? (i := 1531) (by decide +kernel)⟩
theorem lw_p39 : lw_okq (⟨"TermReckonerModel", "nextPeriod", "(II)I"⟩, 42) := ⟨⟨by decide +kernel, by decide +kernel⟩, List.mem_of_getElem? (i := 1292) (by decide +kernel), List.mem_of_getElem? (i := 1534) (by decide +kernel), List.mem_of_getElem? (i := 1535) (by decide +kernel)⟩
theorem lw_p40 : lw_okq (⟨"TermReckonerModel", "isInChain", "(II)Z"⟩, 42) := ⟨⟨by decide +kernel, by decide +kernel⟩, List.mem_of_getElem? (i := 1292) (by decide +kernel), List.mem_of_getElem? (i := 1538) (by decide +kernel), List.mem_of_getElem? (i := 1539) (by decide +kernel)⟩
theorem lw_p41 : lw_okq (⟨"TermReckonerModel", "addedTo", "(I)I"⟩, 42) := ⟨⟨by decide +kernel, by decide +kernel⟩, List.mem_of_getElem? (i := 1292) (by decide +kernel), List.mem_of_getElem? (i := 1542) (by decide +kernel), List.mem_of_getElem? (i := 1543) (by decide +kernel)⟩
theorem lw_p42 : lw_okq (⟨"TermReckonerModel", "isTerm", "(I)Z"⟩, 42) := ⟨⟨by decide +kernel, by decide +kernel⟩, List.mem_of_getElem? (i := 1292) (by decide +kernel), List.mem_of_getElem? (i := 1550) (by decide +kernel), List.mem_of_getElem? (i := 1551) (by decide +kernel)⟩
theorem lw_p43 : lw_okq (⟨"TermReckonerModel", "canFollow", "(I)Z"⟩, 42) := ⟨⟨by decide +kernel, by decide +kernel⟩, List.mem_of_getElem? (i := 1292) (by decide +kernel), List.mem_of_getElem? (i := 1554) (by decide +kernel), List.mem_of_getElem? (i := 1555) (by decide +kernel)⟩
theorem lw_p44 : lw_okq (⟨"TermReckonerModel", "canHaveRemand", "(I)Z"⟩, 42) := ⟨⟨by decide +kernel, by decide +kernel⟩, List.mem_of_getElem? (i := 1292) (by decide +kernel), List.mem_of_getElem? (i := 1562) (by decide +kernel), List.mem_of_getElem? (i := 1563) (by decide +kernel)⟩
theorem lw_p45 : lw_okq (⟨"TermReckonerModel", "bounds", "()V"⟩, 42) := ⟨⟨by decide +kernel, by decide +kernel⟩, List.mem_of_getElem? (i := 1292) (by decide +kernel), List.mem_of_getElem? (i := 1566) (by decide +kernel), List.mem_of_getElem? (i := 1567) (by decide +kernel)⟩
theorem lw_p46 : lw_okq (⟨"TermReckonerModel", "quashes", "(I)I"⟩, 42) := ⟨⟨by decide +kernel, by decide +kernel⟩, List.mem_of_getElem? (i := 1292) (by decide +kernel), List.mem_of_getElem? (i := 1574) (by decide +kernel), List.mem_of_getElem? (i := 1575) (by decide +kernel)⟩
theorem lw_p47 : lw_okq (⟨"TermReckonerModel", "isNext", "(II)Z"⟩, 42) := ⟨⟨by decide +kernel, by decide +kernel⟩, List.mem_of_getElem? (i := 1292) (by decide +kernel), List.mem_of_getElem? (i := 1578) (by decide +kernel), List.mem_of_getElem? (i := 1579) (by decide +kernel)⟩
def lw_privs_3 : List (MethodName × Nat) := [(⟨"TermReckonerModel", "endOfRecall", "()I"⟩, 42), (⟨"TermReckonerModel", "endOfAll", "()I"⟩, 42), (⟨"TermReckonerModel", "isTermOf", "(III)Z"⟩, 42), (⟨"TermReckonerModel", "imposes", "(IIII)I"⟩, 42), (⟨"TermReckonerModel", "works", "()V"⟩, 42), (⟨"TermReckonerModel", "worksTerm", "(I)V"⟩, 42), (⟨"TermReckonerModel", "remandOf", "(I)I"⟩, 42), (⟨"TermReckonerModel", "nextPeriod", "(II)I"⟩, 42), (⟨"TermReckonerModel", "isInChain", "(II)Z"⟩, 42), (⟨"TermReckonerModel", "addedTo", "(I)I"⟩, 42), (⟨"TermReckonerModel", "isTerm", "(I)Z"⟩, 42), (⟨"TermReckonerModel", "canFollow", "(I)Z"⟩, 42), (⟨"TermReckonerModel", "canHaveRemand", "(I)Z"⟩, 42), (⟨"TermReckonerModel", "bounds", "()V"⟩, 42), (⟨"TermReckonerModel", "quashes", "(I)I"⟩, 42), (⟨"TermReckonerModel", "isNext", "(II)Z"⟩, 42)]
theorem lw_r3 : ∀ q ∈ lw_privs_3, lw_okq q := List.forall_mem_cons.mpr ⟨lw_p32, List.forall_mem_cons.mpr ⟨lw_p33, List.forall_mem_cons.mpr ⟨lw_p34, List.forall_mem_cons.mpr ⟨lw_p35, List.forall_mem_cons.mpr ⟨lw_p36, List.forall_mem_cons.mpr ⟨lw_p37, List.forall_mem_cons.mpr ⟨lw_p38, List.forall_mem_cons.mpr ⟨lw_p39, List.forall_mem_cons.mpr ⟨lw_p40, List.forall_mem_cons.mpr ⟨lw_p41, List.forall_mem_cons.mpr ⟨lw_p42, List.forall_mem_cons.mpr ⟨lw_p43, List.forall_mem_cons.mpr ⟨lw_p44, List.forall_mem_cons.mpr ⟨lw_p45, List.forall_mem_cons.mpr ⟨lw_p46, List.forall_mem_cons.mpr ⟨lw_p47, fun _ h => absurd h List.not_mem_nil⟩⟩⟩⟩⟩⟩⟩⟩⟩⟩⟩⟩⟩⟩⟩⟩
theorem lw_p48 : lw_okq (⟨"TermReckonerModel", "statusNow", "()I"⟩, 42) := ⟨⟨by decide +kernel, by decide +kernel⟩, List.mem_of_getElem? (i := 1292) (by decide +kernel), List.mem_of_getElem? (i := 1586) (by decide +kernel), List.mem_of_getElem? (i := 1587) (by decide +kernel)⟩
theorem lw_p49 : lw_okq (⟨"TermReckonerModel", "isRecalled", "()Z"⟩, 42) := ⟨⟨by decide +kernel, by decide +kernel⟩, List.mem_of_getElem? (i := 1292) (by decide +kernel), List.mem_of_getElem? (i := 1590) (by decide +kernel), List.mem_of_getElem? (i := 1591) (by decide +kernel)⟩
theorem lw_p50 : lw_okq (⟨"TermReckonerModel", "awards", "(I)V"⟩, 42) := ⟨⟨by decide +kernel, by decide +kernel⟩, List.mem_of_getElem? (i := 1292) (by decide +kernel), List.mem_of_getElem? (i := 1594) (by decide +kernel), List.mem_of_getElem? (i := 1595) (by decide +kernel)⟩
theorem lw_p51 : lw_okq (⟨"TermReckonerModel", "isAward", "(I)Z"⟩, 42) := ⟨⟨by decide +kernel, by decide +kernel⟩, List.mem_of_getElem? (i := 1292) (by decide +kernel), List.mem_of_getElem? (i := 1602) (by decide +kernel), List.mem_of_getElem? (i := 1603) (by decide +kernel)⟩
theorem lw_p52 : lw_okq (⟨"TermReckonerModel", "failsFor", "(I)Z"⟩, 42) := ⟨⟨by decide +kernel, by decide +kernel⟩, List.mem_of_getElem? (i := 1292) (by decide +kernel), List.mem_of_getElem? (i := 1626) (by decide +kernel), List.mem_of_getElem? (i := 1627) (by decide +kernel)⟩
theorem lw_p53 : lw_okq (⟨"TermReckonerModel", "chainSize", "(I)I"⟩, 42) := ⟨⟨by decide +kernel, by decide +kernel⟩, List.mem_of_getElem? (i := 1292) (by decide +kernel), List.mem_of_getElem? (i := 1634) (by decide +kernel), List.mem_of_getElem? (i := 1635) (by decide +kernel)⟩
theorem lw_p54 : lw_okq (⟨"TermReckonerModel", "isAny", "()Z"⟩, 42) := ⟨⟨by decide +kernel, by decide +kernel⟩, List.mem_of_getElem? (i := 1292) (by decide +kernel), List.mem_of_getElem? (i := 1692) (by decide +kernel), List.mem_of_getElem? (i := 1693) (by decide +kernel)⟩
theorem lw_p55 : lw_okq (⟨"TermReckonerModel", "rank", "(I)I"⟩, 42) := ⟨⟨by decide +kernel, by decide +kernel⟩, List.mem_of_getElem? (i := 1292) (by decide +kernel), List.mem_of_getElem? (i := 1708) (by decide +kernel), List.mem_of_getElem? (i := 1709) (by decide +kernel)⟩
theorem lw_p56 : lw_okq (⟨"TermReckonerModel", "isAhead", "(II)Z"⟩, 42) := ⟨⟨by decide +kernel, by decide +kernel⟩, List.mem_of_getElem? (i := 1292) (by decide +kernel), List.mem_of_getElem? (i := 1712) (by decide +kernel), List.mem_of_getElem? (i := 1713) (by decide +kernel)⟩
theorem lw_p57 : lw_okq (⟨"TermReckonerModel", "sizeToTold", "()I"⟩, 42) := ⟨⟨by decide +kernel, by decide +kernel⟩, List.mem_of_getElem? (i := 1292) (by decide +kernel), List.mem_of_getElem? (i := 1760) (by decide +kernel), List.mem_of_getElem? (i := 1761) (by decide +kernel)⟩
theorem lw_p58 : lw_okq (⟨"TermReckonerModel", "runFrom", "(I)I"⟩, 42) := ⟨⟨by decide +kernel, by decide +kernel⟩, List.mem_of_getElem? (i := 1292) (by decide +kernel), List.mem_of_getElem? (i := 1764) (by decide +kernel), List.mem_of_getElem? (i := 1765) (by decide +kernel)⟩
def lw_privs_4 : List (MethodName × Nat) := [(⟨"TermReckonerModel", "statusNow", "()I"⟩, 42), (⟨"TermReckonerModel", "isRecalled", "()Z"⟩, 42), (⟨"TermReckonerModel", "awards", "(I)V"⟩, 42), (⟨"TermReckonerModel", "isAward", "(I)Z"⟩, 42), (⟨"TermReckonerModel", "failsFor", "(I)Z"⟩, 42), (⟨"TermReckonerModel", "chainSize", "(I)I"⟩, 42), (⟨"TermReckonerModel", "isAny", "()Z"⟩, 42), (⟨"TermReckonerModel", "rank", "(I)I"⟩, 42), (⟨"TermReckonerModel", "isAhead", "(II)Z"⟩, 42), (⟨"TermReckonerModel", "sizeToTold", "()I"⟩, 42), (⟨"TermReckonerModel", "runFrom", "(I)I"⟩, 42)]
theorem lw_r4 : ∀ q ∈ lw_privs_4, lw_okq q := List.forall_mem_cons.mpr ⟨lw_p48, List.forall_mem_cons.mpr ⟨lw_p49, List.forall_mem_cons.mpr ⟨lw_p50, List.forall_mem_cons.mpr ⟨lw_p51, List.forall_mem_cons.mpr ⟨lw_p52, List.forall_mem_cons.mpr ⟨lw_p53, List.forall_mem_cons.mpr ⟨lw_p54, List.forall_mem_cons.mpr ⟨lw_p55, List.forall_mem_cons.mpr ⟨lw_p56, List.forall_mem_cons.mpr ⟨lw_p57, List.forall_mem_cons.mpr ⟨lw_p58, fun _ h => absurd h List.not_mem_nil⟩⟩⟩⟩⟩⟩⟩⟩⟩⟩⟩
def lw_privs : List (MethodName × Nat) := lw_privs_1 ++ (lw_privs_2 ++ (lw_privs_3 ++ (lw_privs_4)))
def lw_tbl : List Cond := k2_sels lw_privs ++ tables_1
theorem lw_privs_ok : ∀ q ∈ lw_privs, lw_okq q := by
  show ∀ q ∈ lw_privs_1 ++ (lw_privs_2 ++ (lw_privs_3 ++ (lw_privs_4))), lw_okq q
  exact List.forall_mem_append.mpr ⟨lw_r1, List.forall_mem_append.mpr ⟨lw_r2, List.forall_mem_append.mpr ⟨lw_r3, lw_r4⟩⟩⟩
end
section
/-! ===== BEGIN words of one list among another's, by their places ===== -/
theorem goodIn_r {big : List Cond} (ws : List Cond) (ps : List Nat) (hp : ws = ps.filterMap (fun i => big[i]?)) (h : ws.all goodWord = true) : GoodIn big ws := by
  intro w hw
  have h1 := List.all_eq_true.mp h w hw
  rw [hp] at hw
  obtain ⟨i, -, hi⟩ := List.mem_filterMap.mp hw
  have hm : w ∈ big := by first | exact List.mem_of_getElem? hi | exact List.getElem?_mem hi
  exact ⟨hm, good_of_word h1⟩
theorem goodIn_app {big a b : List Cond} (ha : GoodIn big a) (hb : GoodIn big b) : GoodIn big (a ++ b) := fun w h => (List.mem_append.mp h).elim (ha w) (hb w)
theorem goodIn_ca {big a b : List Cond} {c : Cond} (ha : GoodIn big (c :: a)) (hb : GoodIn big b) : GoodIn big (c :: (a ++ b)) := fun w h => (List.mem_cons.mp h).elim (fun e => ha w (List.mem_cons.mpr (Or.inl e))) (fun h => (List.mem_append.mp h).elim (fun h => ha w (List.mem_cons.mpr (Or.inr h))) (hb w))
theorem goodIn_sub {big ws : List Cond} (hm : ∀ w ∈ ws, w ∈ big) (h : ws.all goodWord = true) : GoodIn big ws := fun w hw => ⟨hm w hw, good_of_word (List.all_eq_true.mp h w hw)⟩
/-! ===== END ===== -/
/-! ===== BEGIN exceptions that leave a method, and their catching by the caller (launches without stack traces) ===== -/
section VXA
/-! The laws vx_back, vx_callV, vx_callS, vx_callSW, vx_throw0, vx_throwS follow proofs of the library, with one case more: JvmDerived/Free/Laws.lean (Back.of_free), Shelf42/LK1.lean (callV, callS), Shelf/KitTraced.lean (throwNew0V, throwNewS). -/
/-- where a method has thrown q: the class by its name, the cell, what was written, the world -/
def vx_T (XC : String → State → State → Prop) (st : State) (q : Addr) (t : State) (mc ms : Nat) (free : Addr → Prop) : Prop :=
  ∃ (E : String) (ce : Cell) (L : List Loc), XC E st t ∧ t.heap[q]? = some ce ∧ ce.vm = .none ∧ st.vm.findClass E = some ce.cls ∧ st.WarmedH t.vm ∧ st.sameButNew ({ t with vm := st.vm } : State) L mc ms ∧ ∀ z ∈ L, free z.base
def vx_Q (Qc : Array Value → State → Outcome → State → Prop) (XC : String → State → State → Prop) (mc ms : Nat) (free : Addr → Prop) : Array Value → State → Outcome → State → Prop := fun a st o t =>
  (Qc a st o t ∧ ∃ L, FrameEnd st o t L mc ms ∧ ∀ q ∈ L, free q.base) ∨ ∃ q, o = .threw q ∧ vx_T XC st q t mc ms free
/-- a callee that returns or throws -/
def vx_Met (l : Launch) (y : MethodName) (ws : List Cond) (rm : Room) (Pc : Array Value → State → Prop) (Qc : Array Value → State → Outcome → State → Prop) (XC : String → State → State → Prop) (mc ms : Nat) (free : Addr → Prop) : Prop :=
  MetFree l y (headSpec ws rm) Pc (fun _ _ _ _ _ => True) (vx_Q Qc XC mc ms free)
def vx_Post (XC : String → State → State → Prop) (mc ms : Nat) (free : Addr → Prop) : Pt → Array Value → Addr → Pt → Prop := fun A a q B =>
  ∃ (g : JFrame) (mk : MethodId) (t : State) (L : List Loc) (E : String) (ce : Cell), B.U.heap = t.heap ∧ B.U.vm = t.vm ∧ XC E (A.U.calling g mk a) t ∧ t.heap[q]? = some ce ∧ ce.vm = .none ∧ A.U.vm.findClass E = some ce.cls ∧ B.locs = A.locs ++ L ∧ (∀ z ∈ L, free z.base) ∧ B.cells = A.cells + mc ∧ B.slots = A.slots + ms
def vx_Back (l : Launch) (R : Room) (p : Program) (e : Env) (below : List Frame) (s : State) (sargs : Array Value) (y : MethodName) (len W9 : Nat)
    (Pre : Pt → Array Value → Prop) (Post : Pt → Array Value → Option Value → Pt → Prop) (PostX : Pt → Array Value → Addr → Pt → Prop) : Prop :=
  ∀ (m : MethodId) (meth : Method) (c : Code) (A : Pt) (g : JFrame) (ig : Instr) (mk : MethodId) (a : Array Value),
    Stand p l e R s m sargs below meth c A.U A.locs A.cells A.slots → g.method = m → g.locals.size = c.maxLocals → decode c.code g.pc = .ok (ig, len) →
    2 * g.monitorRoom + (g.stack.map fun v => v.category).sum ≤ W9 → A.U.methodNamed? y = some mk → Pre A a →
    (∃ (v : Option Value) (B : Pt), Stand p l e R s m sargs below meth c B.U B.locs B.cells B.slots ∧ Post A a v B ∧
      Steps p.tables e below (doInvoke e (A.U.setTop g) [] mk a).1 (B.U.setTop { g with pc := g.pc + len, stack := v.toList ++ g.stack })) ∨
    (∃ (q : Addr) (B : Pt), Stand p l e R s m sargs below meth c B.U B.locs B.cells B.slots ∧ PostX A a q B ∧
      Steps p.tables e below (doInvoke e (A.U.setTop g) [] mk a).1 ((B.U.setTop g).pushFrame (.throwing q)))
section Payer
variable {l : Launch} {R : Room} {p : Program} {e : Env} {below : List Frame} {s : State} {sargs : Array Value} {y : MethodName} {len W9 : Nat}
theorem vx_back {ws : List Cond} {rm : Room} {Pc : Array Value → State → Prop} {Qc : Array Value → State → Outcome → State → Prop} {XC : String → State → State → Prop} {mc ms : Nat} {free : Addr → Prop} {bytes : ByteArray} {maxL : Nat} {ret : Option FieldType}
    (hM : vx_Met l y ws rm Pc Qc XC mc ms free) (hblind : FrameBlind Pc) (hrc : rm.cells = mc) (hrs : rm.slots = ms)
    (hframes : rm.frames + 1 ≤ R.frames) (hlocals : W9 + (maxL + 11) + rm.locals ≤ R.locals)
    (hws : ∀ w ∈ ws, ∀ a' U, s.WarmedH U.vm → w.before a' U = true) (hcode : Cond.code y bytes maxL ret ∈ ws) (hinit : ∀ a' U, s.WarmedH U.vm → (Cond.initialized y.cls).before a' U = true) :
    vx_Back l R p e below s sargs y len W9 (PreOf R mc ms Pc) (PostOf Qc mc ms free) (vx_Post XC mc ms free) := by
  intro m meth c A g ig mk a X hg hsize hdg hW hn hp
  have h1 : (headSpec ws rm).pre.before a A.U = true := atoms_intro fun w hw => hws w hw _ _ X.warmed
  have h2 : (Cond.code y bytes maxL ret).before a A.U = true := hws _ hcode _ _ X.warmed
  have h3 : (Cond.initialized y.cls).before a A.U = true := hinit _ _ X.warmed
  have h4 : A.cells + (headSpec ws rm).room.cells ≤ R.cells := by rw [show (headSpec ws rm).room.cells = mc from hrc]; exact hp.1
  have h5 : A.slots + (headSpec ws rm).room.slots ≤ R.slots := by rw [show (headSpec ws rm).room.slots = ms from hrs]; exact hp.2.1
  have hPc : Pc a (A.U.calling g mk a) := hblind _ _ _ _ hp.2.2
  obtain ⟨U, Ls, c0, s0⟩ := A
  dsimp only [Pt.U, Pt.locs, Pt.cells, Pt.slots] at h1 h2 h3 h4 h5 X hn hPc ⊢
  obtain ⟨methY, cY, hmY, hcY, -, hlY, -, -, -, -⟩ := Cond.code_spec hn h2
  obtain ⟨kY, hkY, -⟩ := className_of_methodNamed hn
  have hinitY : kY.init = .initialized := Cond.initialized_spec (findClass_of_methodNamed hn) hkY h3
  have h : At U g.method c below := by rw [hg]; exact X.here
  have hlocals9 : W9 + (maxL + 11) + (headSpec ws rm).room.locals ≤ R.locals := hlocals
  have happ : (headSpec ws rm).appliesLoose y e.platform (U.calling g mk a) = true :=
    Spec.appliesLoose_calling (g := g) h hdg hn hkY hinitY
      (X.room_calling (g := g) (R' := (headSpec ws rm).room) hsize hmY hcY hframes (by rw [hlY]; omega) h4 h5) h1
  obtain ⟨mid, hmid⟩ := h.above
  have hfr : (U.setTop g).frames = (.java g :: mid) ++ below := by rw [State.frames_setTop' g h.top, hmid]; rfl
  obtain ⟨o, s₂, hsteps, -, hend, hq⟩ := Steps.callFree hM p X.admits X.cas X.clock (acts := []) hfr happ hPc trivial
  have hq' : vx_Q Qc XC mc ms free a (U.calling g mk a) o s₂ := hq
  rw [State.frames_setTop' g h.top] at hend
  obtain ⟨g₀, hg0⟩ := Option.isSome_iff_exists.mp h.top
  obtain ⟨r, hr⟩ := State.topJava?_eq_some.mp hg0
  have hr' : (({ U with heap := s₂.heap, slotsUsed := s₂.slotsUsed } : State).setVm s₂.vm).frames = .java g₀ :: r := hr
  rcases hq' with ⟨hqc, L, hfe, hL⟩ | ⟨q, rfl, E, ce, L, hx, hce, hcv, hcl, hW₂, hsm, hL⟩
  · obtain ⟨⟨v, rfl⟩, hW₂, e2, q2, q3, q4, q5, q6⟩ := id hfe
    have e3 : s₂ = ({ (U.calling g mk a).setFrames s₂.frames with heap := s₂.heap, slotsUsed := s₂.slotsUsed } : State).setVm s₂.vm := by
      have : s₂ = ({ s₂ with vm := (U.calling g mk a).vm } : State).setVm s₂.vm := rfl
      rw [e2] at this
      exact this
    obtain ⟨c₂, i₂, len₂, hc₂, hd₂, hf₂⟩ := hend
    have hW' : U.WarmedH s₂.vm := hW₂
    have hcc : c₂ = c := by
      have h1 : s₂.code? g.method = U.code? g.method := by
        rw [State.code?_eq, State.code?_eq, hW'.alike.method?]
      exact Option.some.inj (hc₂.symm.trans (h1.trans h.code))
    subst hcc
    have hlen : len₂ = len := by rw [hdg] at hd₂; cases hd₂; rfl
    subst hlen
    have hs₂ : s₂ = (({ U with heap := s₂.heap, slotsUsed := s₂.slotsUsed } : State).setVm s₂.vm).setTop { g with pc := g.pc + len₂, stack := v.toList ++ g.stack } := by
      refine e3.trans ?_
      rw [hf₂, State.calling_eq h.top, State.setFrames_setFrames, State.setTop_of_frames _ hr', hr]
      rfl
    have hsame : U.sameButNew ({ U with heap := s₂.heap, slotsUsed := s₂.slotsUsed } : State) L mc ms := by
      refine ⟨?_, q2, q3, q4, q5, q6⟩
      obtain ⟨t, ht, -⟩ := State.frames_cons hr
      show ({ U with heap := s₂.heap, slotsUsed := s₂.slotsUsed } : State) = { U.setFrames U.frames with heap := s₂.heap, slotsUsed := s₂.slotsUsed }
      rw [State.setFrames_self ht]
    subst hg
    refine Or.inl ⟨v, ⟨(({ U with heap := s₂.heap, slotsUsed := s₂.slotsUsed } : State).setVm s₂.vm), Ls ++ L, c0 + mc, s0 + ms⟩,
      ⟨X.admits, X.cas, X.clock, X.frames, X.room, X.hears, X.method, X.code, (X.here.setHeapUsed s₂.heap s₂.slotsUsed).setVm hW'.alike, X.tail, State.WarmedH.trans X.warmed hW', X.limits, X.bytes, X.same.trans (hsame.setVm s.vm)⟩,
      ⟨g, mk, s₂, L, rfl, rfl, hqc, rfl, hL, rfl, rfl⟩, ?_⟩
    show Steps p.tables e below _ ((({ U with heap := s₂.heap, slotsUsed := s₂.slotsUsed } : State).setVm s₂.vm).setTop { g with pc := g.pc + len₂, stack := v.toList ++ g.stack })
    rw [← hs₂]
    exact hsteps
  · obtain ⟨e2, q2, q3, q4, q5, q6⟩ := id hsm
    have e3 : s₂ = ({ (U.calling g mk a).setFrames s₂.frames with heap := s₂.heap, slotsUsed := s₂.slotsUsed } : State).setVm s₂.vm := by
      have : s₂ = ({ s₂ with vm := (U.calling g mk a).vm } : State).setVm s₂.vm := rfl
      rw [e2] at this
      exact this
    have hf₂ : s₂.frames = .throwing q :: .java g :: U.frames.tail := hend
    have hW' : U.WarmedH s₂.vm := hW₂
    have hs₂ : s₂ = ((({ U with heap := s₂.heap, slotsUsed := s₂.slotsUsed } : State).setVm s₂.vm).setTop g).pushFrame (.throwing q) := by
      refine e3.trans ?_
      rw [hf₂, State.calling_eq h.top, State.setFrames_setFrames, State.pushFrame, State.frames_setTop _ hr', State.setTop_of_frames _ hr', State.setFrames_setFrames, hr]
      rfl
    have hsame : U.sameButNew ({ U with heap := s₂.heap, slotsUsed := s₂.slotsUsed } : State) L mc ms := by
      refine ⟨?_, q2, q3, q4, q5, q6⟩
      obtain ⟨t, ht, -⟩ := State.frames_cons hr
      show ({ U with heap := s₂.heap, slotsUsed := s₂.slotsUsed } : State) = { U.setFrames U.frames with heap := s₂.heap, slotsUsed := s₂.slotsUsed }
      rw [State.setFrames_self ht]
    subst hg
    refine Or.inr ⟨q, ⟨(({ U with heap := s₂.heap, slotsUsed := s₂.slotsUsed } : State).setVm s₂.vm), Ls ++ L, c0 + mc, s0 + ms⟩,
      ⟨X.admits, X.cas, X.clock, X.frames, X.room, X.hears, X.method, X.code, (X.here.setHeapUsed s₂.heap s₂.slotsUsed).setVm hW'.alike, X.tail, State.WarmedH.trans X.warmed hW', X.limits, X.bytes, X.same.trans (hsame.setVm s.vm)⟩,
      ⟨g, mk, s₂, L, E, ce, rfl, rfl, hx, hce, hcv, hcl, rfl, hL, rfl, rfl⟩, ?_⟩
    show Steps p.tables e below _ (((({ U with heap := s₂.heap, slotsUsed := s₂.slotsUsed } : State).setVm s₂.vm).setTop g).pushFrame (.throwing q))
    rw [← hs₂]
    exact hsteps
end Payer
section Calls
variable {p : Program} {l : Launch} {e : Env} {R : Room} {s : State} {m : MethodId} {args : Array Value} {below : List Frame} {meth : Method} {c : Code} {T : State} {locs : List Loc} {cells slots : Nat}
theorem vx_callV (X : Stand p l e R s m args below meth c T locs cells slots) (hexec : p.tables.exec = Jvm.exec) {own C : String} {index : Nat} {y : MethodName} {bytes : ByteArray} {maxL : Nat} {ret : Option FieldType}
    (hown : s.vm.findClass own = some m.cls) (hlink : (Cond.methodLink own index y).before args s = true) (hinst : (Cond.instanceMethod y).before args s = true) (hsel : (Cond.selects C y y).before args s = true)
    (hcode : (Cond.code y bytes maxL ret).before args s = true) (hy : y.cls ≠ "java/lang/invoke/MethodHandle" ∧ y.cls ≠ "java/lang/invoke/VarHandle")
    {W9 : Nat} {Pre : Pt → Array Value → Prop} {Post : Pt → Array Value → Option Value → Pt → Prop} {PostX : Pt → Array Value → Addr → Pt → Prop} (hK : vx_Back l R p e below s args y 3 W9 Pre Post PostX)
    {b : Addr} {cellB : Cell} (hcell : T.heap[b]? = some cellB) (hobj : cellB.vm.isStatics = false) (hcls : s.vm.findClass C = some cellB.cls)
    {g : JFrame} (hg : g.method = m) (hsize : g.locals.size = c.maxLocals) {argsL rest : List Value} (hlen : ∀ sig, parseMethodDescriptor y.desc = some sig → argsL.length = sig.parameters.length)
    (hstack : g.stack = argsL.reverse ++ .ref b :: rest) (hW : 2 * g.monitorRoom + (rest.map fun v => v.category).sum ≤ W9) (hdg : decode c.code g.pc = .ok (.invokevirtual index, 3))
    (hpre : ∀ vm₁, s.WarmedH vm₁ → Pre ⟨T.setVm vm₁, locs, cells, slots⟩ (Value.ref b :: argsL).toArray) :
    (∃ (v : Option Value) (vm₁ : Vm) (B : Pt), s.WarmedH vm₁ ∧ Stand p l e R s m args below meth c B.U B.locs B.cells B.slots ∧ Post ⟨T.setVm vm₁, locs, cells, slots⟩ (Value.ref b :: argsL).toArray v B ∧
      ∀ target, Steps p.tables e below (B.U.setTop { g with pc := g.pc + 3, stack := v.toList ++ rest }) target → Steps p.tables e below (T.setTop g) target) ∨
    (∃ (q : Addr) (vm₁ : Vm) (B : Pt), s.WarmedH vm₁ ∧ Stand p l e R s m args below meth c B.U B.locs B.cells B.slots ∧ PostX ⟨T.setVm vm₁, locs, cells, slots⟩ (Value.ref b :: argsL).toArray q B ∧
      Steps p.tables e below (T.setTop g) ((B.U.setTop { g with stack := rest }).pushFrame (.throwing q))) := by
  obtain ⟨mk, methM, hnamed, hmethM, hstM, habM⟩ := Cond.instanceMethod_spec hinst
  obtain ⟨methM', cM, hmethM', -, -, -, -, -, -, hsigM⟩ := Cond.code_spec hnamed hcode
  cases hmethM.symm.trans hmethM'
  obtain ⟨c2, r2, m2, q1, q2, q3, q4, kP, hkP, hkPi⟩ := Cond.selects_spec hsel
  cases hcls.symm.trans q1
  cases (State.methodFound?_of_named hnamed hy).symm.trans q2
  cases hnamed.symm.trans q3
  have hselP : selectMethod e.platform s.vm cellB.cls mk = .method mk := by rw [Launch.admits_selectMethod X.admits]; exact q4
  obtain ⟨vm₁, X₁, hstep₁⟩ := X.invokevirtual hexec hown hlink hnamed hmethM hstM hkP hkPi hy (a := b) (cell := cellB) hcell
    (fun z h => by rw [h] at hobj; cases hobj) hselP hmethM habM hkP hkPi (g := g) hg (argsL := argsL) (rest := rest) (hlen _ hsigM) hstack hdg
  rcases hK m meth c ⟨T.setVm vm₁, locs, cells, slots⟩ { g with stack := rest } (.invokevirtual index) mk (Value.ref b :: argsL).toArray X₁ hg hsize hdg hW (X₁.named hnamed) (hpre vm₁ X₁.warmed) with ⟨v, B, X', hpost, hsteps⟩ | ⟨q, B, X', hpost, hsteps⟩
  · exact Or.inl ⟨v, vm₁, B, X₁.warmed, X', hpost, fun target h => hstep₁ _ fun acts => by rw [doInvoke_state]; exact hsteps.trans h⟩
  · exact Or.inr ⟨q, vm₁, B, X₁.warmed, X', hpost, hstep₁ _ fun acts => by rw [doInvoke_state]; exact hsteps⟩
theorem vx_callS (X : Stand p l e R s m args below meth c T locs cells slots) (hexec : p.tables.exec = Jvm.exec) {own : String} {index : Nat} {y : MethodName} {bytes : ByteArray} {maxL : Nat} {ret : Option FieldType}
    (hown : s.vm.findClass own = some m.cls) (hlink : (Cond.methodLink own index y).before args s = true) (hstat : (Cond.static y).before args s = true) (hinit : (Cond.initialized y.cls).before args s = true)
    (hcode : (Cond.code y bytes maxL ret).before args s = true) (hy : y.cls ≠ "java/lang/invoke/MethodHandle" ∧ y.cls ≠ "java/lang/invoke/VarHandle")
    {W9 : Nat} {Pre : Pt → Array Value → Prop} {Post : Pt → Array Value → Option Value → Pt → Prop} {PostX : Pt → Array Value → Addr → Pt → Prop} (hK : vx_Back l R p e below s args y 3 W9 Pre Post PostX)
    {g : JFrame} (hg : g.method = m) (hsize : g.locals.size = c.maxLocals) {argsL rest : List Value} (hlen : ∀ sig, parseMethodDescriptor y.desc = some sig → argsL.length = sig.parameters.length)
    (hstack : g.stack = argsL.reverse ++ rest) (hW : 2 * g.monitorRoom + (rest.map fun v => v.category).sum ≤ W9) (hdg : decode c.code g.pc = .ok (.invokestatic index, 3))
    (hpre : ∀ vm₁, s.WarmedH vm₁ → Pre ⟨T.setVm vm₁, locs, cells, slots⟩ argsL.toArray) :
    (∃ (v : Option Value) (vm₁ : Vm) (B : Pt), s.WarmedH vm₁ ∧ Stand p l e R s m args below meth c B.U B.locs B.cells B.slots ∧ Post ⟨T.setVm vm₁, locs, cells, slots⟩ argsL.toArray v B ∧
      ∀ target, Steps p.tables e below (B.U.setTop { g with pc := g.pc + 3, stack := v.toList ++ rest }) target → Steps p.tables e below (T.setTop g) target) ∨
    (∃ (q : Addr) (vm₁ : Vm) (B : Pt), s.WarmedH vm₁ ∧ Stand p l e R s m args below meth c B.U B.locs B.cells B.slots ∧ PostX ⟨T.setVm vm₁, locs, cells, slots⟩ argsL.toArray q B ∧
      Steps p.tables e below (T.setTop g) ((B.U.setTop { g with stack := rest }).pushFrame (.throwing q))) := by
  obtain ⟨mk, hnamed⟩ := Cond.code_named hcode
  obtain ⟨methM, cM, hmethM, -, -, -, -, -, -, hsigM⟩ := Cond.code_spec hnamed hcode
  have hstatic : methM.isStatic = true := Cond.static_spec hnamed hmethM hstat
  obtain ⟨kP, hkP, -⟩ := className_of_methodNamed hnamed
  have hinitP : kP.init = .initialized := Cond.initialized_spec (findClass_of_methodNamed hnamed) hkP hinit
  obtain ⟨vm₁, X₁, hstep₁⟩ := X.invokestatic hexec hown hlink hnamed hmethM hstatic hkP hinitP hy (g := g) hg (argsL := argsL) (rest := rest) (hlen _ hsigM) hstack hdg
  rcases hK m meth c ⟨T.setVm vm₁, locs, cells, slots⟩ { g with stack := rest } (.invokestatic index) mk argsL.toArray X₁ hg hsize hdg hW (X₁.named hnamed) (hpre vm₁ X₁.warmed) with ⟨v, B, X', hpost, hsteps⟩ | ⟨q, B, X', hpost, hsteps⟩
  · exact Or.inl ⟨v, vm₁, B, X₁.warmed, X', hpost, fun target h => hstep₁ _ fun acts => by rw [doInvoke_state]; exact hsteps.trans h⟩
  · exact Or.inr ⟨q, vm₁, B, X₁.warmed, X', hpost, hstep₁ _ fun acts => by rw [doInvoke_state]; exact hsteps⟩
end Calls
theorem vx_cls {s : State} {T : State} {vm₁ : Vm} {E : String} {k : ClassId} (hW : s.WarmedH vm₁) (h : (T.setVm vm₁).vm.findClass E = some k) : s.vm.findClass E = some k := by
  have h1 : vm₁.findClass E = some k := h
  rw [hW.alike.findClass] at h1
  exact h1
/-- the method's frame g, with q thrown over it -/
def vx_W (p : Program) (l : Launch) (e : Env) (R : Room) (s : State) (m : MethodId) (args : Array Value) (below : List Frame) (meth : Method) (c : Code) (H : Heap) (locs : List Loc) (cells slots : Nat) (Q : State → Prop) (g : JFrame) (q : Addr) : Prop :=
  ∀ T : State, T.heap = H → Stand p l e R s m args below meth c T locs cells slots → ∃ t, Steps p.tables e below ((T.setTop g).pushFrame (.throwing q)) t ∧ Q t
def vx_Run (p : Program) (l : Launch) (e : Env) (R : Room) (s : State) (m : MethodId) (args : Array Value) (below : List Frame) (meth : Method) (c : Code) (H : Heap) (locs : List Loc) (cells slots mc ms : Nat) (g : JFrame) (rest : List Value) (Qa : State → Outcome → State → Prop) (XC : String → State → State → Prop) (free : Addr → Prop) : Prop :=
  ∀ T : State, T.heap = H → Stand p l e R s m args below meth c T locs cells slots →
    (∃ (v : Option Value) (st₀ t T' : State) (L : List Loc), st₀.heap = H ∧ Stand p l e R s m args below meth c T' (locs ++ L) (cells + mc) (slots + ms) ∧ (∀ q ∈ L, free q.base) ∧ T'.heap = t.heap ∧ T'.vm = t.vm ∧ Qa st₀ (.returned v) t ∧
      Goes p e below T g T' { g with pc := g.pc + 3, stack := v.toList ++ rest }) ∨
    (∃ (q : Addr) (st₀ t T' : State) (L : List Loc) (E : String) (ce : Cell), st₀.heap = H ∧ Stand p l e R s m args below meth c T' (locs ++ L) (cells + mc) (slots + ms) ∧ (∀ z ∈ L, free z.base) ∧ T'.heap = t.heap ∧ T'.vm = t.vm ∧ XC E st₀ t ∧ t.heap[q]? = some ce ∧ ce.vm = .none ∧ s.vm.findClass E = some ce.cls ∧
      Steps p.tables e below (T.setTop g) ((T'.setTop { g with stack := rest }).pushFrame (.throwing q)))
def vx_X {S : Type} (px : S → Prop) (B : String → S → State → Prop) (A : Nat → Prop) : String → State → State → Prop := fun E st t => ∃ u : S, px u ∧ B E u t ∧ va_F A st t
section Runs
variable {p : Program} {l : Launch} {e : Env} {R : Room} {s : State} {m : MethodId} {args : Array Value} {below : List Frame} {meth : Method} {c : Code} {H : Heap} {locs : List Loc} {cells slots : Nat}
variable {y : MethodName} {bytes cc : ByteArray} {maxL nL mc ms n index : Nat} {ret : Option FieldType} {ws : List Cond} {rm : Room} {Pc : Array Value → State → Prop} {Qc : Array Value → State → Outcome → State → Prop} {XC : String → State → State → Prop} {free : Addr → Prop} {Ts : List Cond} {own C : String} {b : Addr} {As rest : List Value} {g : JFrame}
theorem vx_callBack (cb : CallB R s args own index y bytes maxL ret ws rm mc ms n) (hM : vx_Met l y ws rm Pc Qc XC mc ms free) (hbl : FrameBlind Pc) : vx_Back l R p e below s args y 3 8 (PreOf R mc ms Pc) (PostOf Qc mc ms free) (vx_Post XC mc ms free) := by
  obtain ⟨hrc, hrs, hfr, hlo, hws, hcw, -, hini, -⟩ := cb
  exact vx_back (bytes := bytes) (maxL := maxL) (ret := ret) hM hbl hrc hrs hfr hlo hws hcw (fun a' U hW => word_at hW (Or.inl (by first | rfl | simp [Cond.onTables, Cond.keeps, Cond.steady])) hini)
theorem vx_runV (S : CallFix p m c cc nL s args Ts own) (hM : vx_Met l y ws rm Pc Qc XC mc ms free) (cw : CallW R s args own C index y bytes maxL ret ws rm mc ms n) (hp : PreV s H C b Pc As)
    (hg : g.method = m) (hn : As.length = n) (hsize : g.locals.size = nL) (hstack : g.stack = As.reverse ++ .ref b :: rest) (hW : 2 * g.monitorRoom + (rest.map fun v => v.category).sum ≤ 8) (hdg : decode cc g.pc = .ok (.invokevirtual index, 3)) (hf : cells + mc ≤ R.cells ∧ slots + ms ≤ R.slots) :
    vx_Run p l e R s m args below meth c H locs cells slots mc ms g rest (Qc (Value.ref b :: As).toArray) XC free := by
  have hK : vx_Back l R p e below s args y 3 8 (PreOf R mc ms Pc) (PostOf Qc mc ms free) (vx_Post XC mc ms free) := vx_callBack cw.1 hM hp.1
  obtain ⟨⟨-, -, -, -, -, -, hcode, -, hy, hlen, hl⟩, hin, hse⟩ := cw
  obtain ⟨hx, hb, hml, ho, -⟩ := S
  obtain ⟨-, ⟨cellB, hcB, hoB, hclB⟩, hPc⟩ := hp
  intro T hT X
  rcases vx_callV X hx (C := C) (bytes := bytes) (maxL := maxL) (ret := ret) ho hl hin hse hcode hy hK (by rw [hT]; exact hcB) hoB hclB hg (hsize.trans hml.symm) (argsL := As) (rest := rest) (fun sig h => hn.trans (hlen sig h)) hstack hW (by rw [hb]; exact hdg)
    (fun vm₁ hW₁ => ⟨hf.1, hf.2, hPc (T.setVm vm₁) hT hW₁⟩) with ⟨v, vm₁, ⟨U', l2, c2, s2⟩, hW₁, X', ⟨g', mk, t, L, e1, e2, hq, h1, hL, h2, h3⟩, st⟩ | ⟨q, vm₁, ⟨U', l2, c2, s2⟩, hW₁, X', ⟨g', mk, t, L, E, ce, e1, e2, hq, hce, hcv, hcl, h1, hL, h2, h3⟩, st⟩
  · dsimp only [Pt.U, Pt.locs, Pt.cells, Pt.slots] at X' e1 e2 h1 h2 h3 st
    subst h1; subst h2; subst h3
    exact Or.inl ⟨v, (T.setVm vm₁).calling g' mk (Value.ref b :: As).toArray, t, U', L, hT, X', hL, e1, e2, hq, st⟩
  · dsimp only [Pt.U, Pt.locs, Pt.cells, Pt.slots] at X' e1 e2 h1 h2 h3 st hcl
    subst h1; subst h2; subst h3
    exact Or.inr ⟨q, (T.setVm vm₁).calling g' mk (Value.ref b :: As).toArray, t, U', L, E, ce, hT, X', hL, e1, e2, hq, hce, hcv, vx_cls hW₁ hcl, st⟩
theorem vx_runS (S : CallFix p m c cc nL s args Ts own) (hM : vx_Met l y ws rm Pc Qc XC mc ms free) (cw : CallB R s args own index y bytes maxL ret ws rm mc ms n ∧ (Cond.static y).before args s = true) (hp : PreS s H Pc As)
    (hg : g.method = m) (hn : As.length = n) (hsize : g.locals.size = nL) (hstack : g.stack = As.reverse ++ rest) (hW : 2 * g.monitorRoom + (rest.map fun v => v.category).sum ≤ 8) (hdg : decode cc g.pc = .ok (.invokestatic index, 3)) (hf : cells + mc ≤ R.cells ∧ slots + ms ≤ R.slots) :
    vx_Run p l e R s m args below meth c H locs cells slots mc ms g rest (Qc As.toArray) XC free := by
  have hK : vx_Back l R p e below s args y 3 8 (PreOf R mc ms Pc) (PostOf Qc mc ms free) (vx_Post XC mc ms free) := vx_callBack cw.1 hM hp.1
  obtain ⟨⟨-, -, -, -, -, -, hcode, hini, hy, hlen, hl⟩, hstt⟩ := cw
  obtain ⟨hx, hb, hml, ho, -⟩ := S
  intro T hT X
  rcases vx_callS X hx (bytes := bytes) (maxL := maxL) (ret := ret) ho hl hstt hini hcode hy hK hg (hsize.trans hml.symm) (argsL := As) (rest := rest) (fun sig h => hn.trans (hlen sig h)) hstack hW (by rw [hb]; exact hdg)
    (fun vm₁ hW₁ => ⟨hf.1, hf.2, hp.2 (T.setVm vm₁) hT hW₁⟩) with ⟨v, vm₁, ⟨U', l2, c2, s2⟩, hW₁, X', ⟨g', mk, t, L, e1, e2, hq, h1, hL, h2, h3⟩, st⟩ | ⟨q, vm₁, ⟨U', l2, c2, s2⟩, hW₁, X', ⟨g', mk, t, L, E, ce, e1, e2, hq, hce, hcv, hcl, h1, hL, h2, h3⟩, st⟩
  · dsimp only [Pt.U, Pt.locs, Pt.cells, Pt.slots] at X' e1 e2 h1 h2 h3 st
    subst h1; subst h2; subst h3
    exact Or.inl ⟨v, (T.setVm vm₁).calling g' mk As.toArray, t, U', L, hT, X', hL, e1, e2, hq, st⟩
  · dsimp only [Pt.U, Pt.locs, Pt.cells, Pt.slots] at X' e1 e2 h1 h2 h3 st hcl
    subst h1; subst h2; subst h3
    exact Or.inr ⟨q, (T.setVm vm₁).calling g' mk As.toArray, t, U', L, E, ce, hT, X', hL, e1, e2, hq, hce, hcv, vx_cls hW₁ hcl, st⟩
end Runs
section Rows
variable {p : Program} {l : Launch} {e : Env} {R : Room} {s : State} {m : MethodId} {args : Array Value} {below : List Frame} {meth : Method} {c : Code} {H : Heap} {locs : List Loc} {cells slots : Nat} {Q : State → Prop}
variable {mc ms : Nat} {free : Addr → Prop} {A0 A1 : Nat → Prop} {H0 : Heap} {a : Array Value} {pc : Nat} {ls : Array Slot} {st0 rest : List Value}
theorem vx_keep {st₀ t T' : State} {L : List Loc} (h0 : st₀.heap = H) (e1 : T'.heap = t.heap) (hS : va_S A0 H0 H locs) (hA : ∀ q, q < H.size → A1 q → A0 q) (hf : ∀ q, free q → A0 q) (hL : ∀ q ∈ L, free q.base) (hF : va_F A1 st₀ t) :
    H.size ≤ T'.heap.size ∧ (∀ q : Nat, q < H.size → ¬ A1 q → T'.heap[q]? = H[q]?) ∧ va_S A0 H0 T'.heap (locs ++ L) := by
  obtain ⟨hz, hk⟩ := hF
  rw [h0] at hz hk
  exact ⟨by rw [e1]; exact hz, fun q h1 h2 => by rw [e1]; exact hk q h1 h2,
    ⟨Nat.le_trans hS.1 (by rw [e1]; exact hz), fun q h1 h2 => by rw [e1, hk q (Nat.lt_of_lt_of_le h1 hS.1) (fun z => h2 (hA q (Nat.lt_of_lt_of_le h1 hS.1) z))]; exact hS.2.1 q h1 h2, fun q hq => by
      rcases List.mem_append.mp hq with h | h
      · exact hS.2.2 q h
      · exact hf _ (hL q h)⟩⟩
theorem vx_calli {S SX : Type} {post : Int32 → S → Prop} {px : SX → Prop} {B : S → State → Prop} {BX : String → SX → State → Prop} {AX : Nat → Prop} (hr : vx_Run p l e R s m args below meth c H locs cells slots mc ms (F0 m pc ls st0) rest (va_Qi post B A1 a) (vx_X px BX AX) free) (hS : va_S A0 H0 H locs) (hA : ∀ q, q < H.size → A1 q → A0 q) (hf : ∀ q, free q → A0 q) (hAX : ∀ q, q < H.size → AX q → A0 q)
    (kx : ∀ (E : String) (ce : Cell) (q9 : Addr) (u : SX) (t : State) (H1 : Heap) (locs1 : List Loc), t.heap = H1 → s.vm.Alike t.vm → px u → BX E u t → H.size ≤ H1.size → (∀ q : Nat, q < H.size → ¬ AX q → H1[q]? = H[q]?) → va_S A0 H0 H1 locs1 → H1[q9]? = some ce → ce.vm = .none → s.vm.findClass E = some ce.cls → vx_W p l e R s m args below meth c H1 locs1 (cells + mc) (slots + ms) Q (F0 m pc ls rest) q9)
    (kk : ∀ (r : Int32) (u : S) (t : State) (H1 : Heap) (locs1 : List Loc), t.heap = H1 → s.vm.Alike t.vm → post r u → B u t → H.size ≤ H1.size → (∀ q : Nat, q < H.size → ¬ A1 q → H1[q]? = H[q]?) → va_S A0 H0 H1 locs1 → W p l e R s m args below meth c H1 locs1 (cells + mc) (slots + ms) Q (F0 m (pc + 3) ls (.int r :: rest))) : W p l e R s m args below meth c H locs cells slots Q (F0 m pc ls st0) := by
  intro T hT X
  rcases hr T hT X with ⟨v, st₀, t, T', L, h0, X', hL, e1, e2, ⟨⟨r, u, hv, hp, hb⟩, hF⟩, st⟩ | ⟨q, st₀, t, T', L, E, ce, h0, X', hL, e1, e2, ⟨u, hp, hb, hF⟩, hce, hcv, hcl, st⟩
  · cases hv
    obtain ⟨k1, k2, k3⟩ := vx_keep h0 e1 hS hA hf hL hF
    obtain ⟨t2, a1, b1⟩ := kk r u t T'.heap (locs ++ L) e1.symm (by rw [← e2]; exact X'.warmed.alike) hp hb k1 k2 k3 T' rfl X'
    exact ⟨t2, st t2 a1, b1⟩
  · obtain ⟨k1, k2, k3⟩ := vx_keep h0 e1 hS hAX hf hL hF
    obtain ⟨t2, a1, b1⟩ := kx E ce q u t T'.heap (locs ++ L) e1.symm (by rw [← e2]; exact X'.warmed.alike) hp hb k1 k2 k3 (by rw [e1]; exact hce) hcv hcl T' rfl X'
    exact ⟨t2, st.trans a1, b1⟩
theorem vx_calll {S SX : Type} {post : Int64 → S → Prop} {px : SX → Prop} {B : S → State → Prop} {BX : String → SX → State → Prop} {AX : Nat → Prop} (hr : vx_Run p l e R s m args below meth c H locs cells slots mc ms (F0 m pc ls st0) rest (va_Ql post B A1 a) (vx_X px BX AX) free) (hS : va_S A0 H0 H locs) (hA : ∀ q, q < H.size → A1 q → A0 q) (hf : ∀ q, free q → A0 q) (hAX : ∀ q, q < H.size → AX q → A0 q)
    (kx : ∀ (E : String) (ce : Cell) (q9 : Addr) (u : SX) (t : State) (H1 : Heap) (locs1 : List Loc), t.heap = H1 → s.vm.Alike t.vm → px u → BX E u t → H.size ≤ H1.size → (∀ q : Nat, q < H.size → ¬ AX q → H1[q]? = H[q]?) → va_S A0 H0 H1 locs1 → H1[q9]? = some ce → ce.vm = .none → s.vm.findClass E = some ce.cls → vx_W p l e R s m args below meth c H1 locs1 (cells + mc) (slots + ms) Q (F0 m pc ls rest) q9)
    (kk : ∀ (r : Int64) (u : S) (t : State) (H1 : Heap) (locs1 : List Loc), t.heap = H1 → s.vm.Alike t.vm → post r u → B u t → H.size ≤ H1.size → (∀ q : Nat, q < H.size → ¬ A1 q → H1[q]? = H[q]?) → va_S A0 H0 H1 locs1 → W p l e R s m args below meth c H1 locs1 (cells + mc) (slots + ms) Q (F0 m (pc + 3) ls (.long r :: rest))) : W p l e R s m args below meth c H locs cells slots Q (F0 m pc ls st0) := by
  intro T hT X
  rcases hr T hT X with ⟨v, st₀, t, T', L, h0, X', hL, e1, e2, ⟨⟨r, u, hv, hp, hb⟩, hF⟩, st⟩ | ⟨q, st₀, t, T', L, E, ce, h0, X', hL, e1, e2, ⟨u, hp, hb, hF⟩, hce, hcv, hcl, st⟩
  · cases hv
    obtain ⟨k1, k2, k3⟩ := vx_keep h0 e1 hS hA hf hL hF
    obtain ⟨t2, a1, b1⟩ := kk r u t T'.heap (locs ++ L) e1.symm (by rw [← e2]; exact X'.warmed.alike) hp hb k1 k2 k3 T' rfl X'
    exact ⟨t2, st t2 a1, b1⟩
  · obtain ⟨k1, k2, k3⟩ := vx_keep h0 e1 hS hAX hf hL hF
    obtain ⟨t2, a1, b1⟩ := kx E ce q u t T'.heap (locs ++ L) e1.symm (by rw [← e2]; exact X'.warmed.alike) hp hb k1 k2 k3 (by rw [e1]; exact hce) hcv hcl T' rfl X'
    exact ⟨t2, st.trans a1, b1⟩
theorem vx_callf {S SX : Type} {post : UInt32 → S → Prop} {px : SX → Prop} {B : S → State → Prop} {BX : String → SX → State → Prop} {AX : Nat → Prop} (hr : vx_Run p l e R s m args below meth c H locs cells slots mc ms (F0 m pc ls st0) rest (va_Qf post B A1 a) (vx_X px BX AX) free) (hS : va_S A0 H0 H locs) (hA : ∀ q, q < H.size → A1 q → A0 q) (hf : ∀ q, free q → A0 q) (hAX : ∀ q, q < H.size → AX q → A0 q)
    (kx : ∀ (E : String) (ce : Cell) (q9 : Addr) (u : SX) (t : State) (H1 : Heap) (locs1 : List Loc), t.heap = H1 → s.vm.Alike t.vm → px u → BX E u t → H.size ≤ H1.size → (∀ q : Nat, q < H.size → ¬ AX q → H1[q]? = H[q]?) → va_S A0 H0 H1 locs1 → H1[q9]? = some ce → ce.vm = .none → s.vm.findClass E = some ce.cls → vx_W p l e R s m args below meth c H1 locs1 (cells + mc) (slots + ms) Q (F0 m pc ls rest) q9)
    (kk : ∀ (r : UInt32) (u : S) (t : State) (H1 : Heap) (locs1 : List Loc), t.heap = H1 → s.vm.Alike t.vm → post r u → B u t → H.size ≤ H1.size → (∀ q : Nat, q < H.size → ¬ A1 q → H1[q]? = H[q]?) → va_S A0 H0 H1 locs1 → W p l e R s m args below meth c H1 locs1 (cells + mc) (slots + ms) Q (F0 m (pc + 3) ls (.float r :: rest))) : W p l e R s m args below meth c H locs cells slots Q (F0 m pc ls st0) := by
  intro T hT X
  rcases hr T hT X with ⟨v, st₀, t, T', L, h0, X', hL, e1, e2, ⟨⟨r, u, hv, hp, hb⟩, hF⟩, st⟩ | ⟨q, st₀, t, T', L, E, ce, h0, X', hL, e1, e2, ⟨u, hp, hb, hF⟩, hce, hcv, hcl, st⟩
  · cases hv
    obtain ⟨k1, k2, k3⟩ := vx_keep h0 e1 hS hA hf hL hF
    obtain ⟨t2, a1, b1⟩ := kk r u t T'.heap (locs ++ L) e1.symm (by rw [← e2]; exact X'.warmed.alike) hp hb k1 k2 k3 T' rfl X'
    exact ⟨t2, st t2 a1, b1⟩
  · obtain ⟨k1, k2, k3⟩ := vx_keep h0 e1 hS hAX hf hL hF
    obtain ⟨t2, a1, b1⟩ := kx E ce q u t T'.heap (locs ++ L) e1.symm (by rw [← e2]; exact X'.warmed.alike) hp hb k1 k2 k3 (by rw [e1]; exact hce) hcv hcl T' rfl X'
    exact ⟨t2, st.trans a1, b1⟩
theorem vx_calld {S SX : Type} {post : UInt64 → S → Prop} {px : SX → Prop} {B : S → State → Prop} {BX : String → SX → State → Prop} {AX : Nat → Prop} (hr : vx_Run p l e R s m args below meth c H locs cells slots mc ms (F0 m pc ls st0) rest (va_Qd post B A1 a) (vx_X px BX AX) free) (hS : va_S A0 H0 H locs) (hA : ∀ q, q < H.size → A1 q → A0 q) (hf : ∀ q, free q → A0 q) (hAX : ∀ q, q < H.size → AX q → A0 q)
    (kx : ∀ (E : String) (ce : Cell) (q9 : Addr) (u : SX) (t : State) (H1 : Heap) (locs1 : List Loc), t.heap = H1 → s.vm.Alike t.vm → px u → BX E u t → H.size ≤ H1.size → (∀ q : Nat, q < H.size → ¬ AX q → H1[q]? = H[q]?) → va_S A0 H0 H1 locs1 → H1[q9]? = some ce → ce.vm = .none → s.vm.findClass E = some ce.cls → vx_W p l e R s m args below meth c H1 locs1 (cells + mc) (slots + ms) Q (F0 m pc ls rest) q9)
    (kk : ∀ (r : UInt64) (u : S) (t : State) (H1 : Heap) (locs1 : List Loc), t.heap = H1 → s.vm.Alike t.vm → post r u → B u t → H.size ≤ H1.size → (∀ q : Nat, q < H.size → ¬ A1 q → H1[q]? = H[q]?) → va_S A0 H0 H1 locs1 → W p l e R s m args below meth c H1 locs1 (cells + mc) (slots + ms) Q (F0 m (pc + 3) ls (.double r :: rest))) : W p l e R s m args below meth c H locs cells slots Q (F0 m pc ls st0) := by
  intro T hT X
  rcases hr T hT X with ⟨v, st₀, t, T', L, h0, X', hL, e1, e2, ⟨⟨r, u, hv, hp, hb⟩, hF⟩, st⟩ | ⟨q, st₀, t, T', L, E, ce, h0, X', hL, e1, e2, ⟨u, hp, hb, hF⟩, hce, hcv, hcl, st⟩
  · cases hv
    obtain ⟨k1, k2, k3⟩ := vx_keep h0 e1 hS hA hf hL hF
    obtain ⟨t2, a1, b1⟩ := kk r u t T'.heap (locs ++ L) e1.symm (by rw [← e2]; exact X'.warmed.alike) hp hb k1 k2 k3 T' rfl X'
    exact ⟨t2, st t2 a1, b1⟩
  · obtain ⟨k1, k2, k3⟩ := vx_keep h0 e1 hS hAX hf hL hF
    obtain ⟨t2, a1, b1⟩ := kx E ce q u t T'.heap (locs ++ L) e1.symm (by rw [← e2]; exact X'.warmed.alike) hp hb k1 k2 k3 (by rw [e1]; exact hce) hcv hcl T' rfl X'
    exact ⟨t2, st.trans a1, b1⟩
theorem vx_callv {S SX : Type} {post : S → Prop} {px : SX → Prop} {B : S → State → Prop} {BX : String → SX → State → Prop} {AX : Nat → Prop} (hr : vx_Run p l e R s m args below meth c H locs cells slots mc ms (F0 m pc ls st0) rest (va_Qv post B A1 a) (vx_X px BX AX) free) (hS : va_S A0 H0 H locs) (hA : ∀ q, q < H.size → A1 q → A0 q) (hf : ∀ q, free q → A0 q) (hAX : ∀ q, q < H.size → AX q → A0 q)
    (kx : ∀ (E : String) (ce : Cell) (q9 : Addr) (u : SX) (t : State) (H1 : Heap) (locs1 : List Loc), t.heap = H1 → s.vm.Alike t.vm → px u → BX E u t → H.size ≤ H1.size → (∀ q : Nat, q < H.size → ¬ AX q → H1[q]? = H[q]?) → va_S A0 H0 H1 locs1 → H1[q9]? = some ce → ce.vm = .none → s.vm.findClass E = some ce.cls → vx_W p l e R s m args below meth c H1 locs1 (cells + mc) (slots + ms) Q (F0 m pc ls rest) q9)
    (kk : ∀ (u : S) (t : State) (H1 : Heap) (locs1 : List Loc), t.heap = H1 → s.vm.Alike t.vm → post u → B u t → H.size ≤ H1.size → (∀ q : Nat, q < H.size → ¬ A1 q → H1[q]? = H[q]?) → va_S A0 H0 H1 locs1 → W p l e R s m args below meth c H1 locs1 (cells + mc) (slots + ms) Q (F0 m (pc + 3) ls (rest))) : W p l e R s m args below meth c H locs cells slots Q (F0 m pc ls st0) := by
  intro T hT X
  rcases hr T hT X with ⟨v, st₀, t, T', L, h0, X', hL, e1, e2, ⟨⟨u, hv, hp, hb⟩, hF⟩, st⟩ | ⟨q, st₀, t, T', L, E, ce, h0, X', hL, e1, e2, ⟨u, hp, hb, hF⟩, hce, hcv, hcl, st⟩
  · cases hv
    obtain ⟨k1, k2, k3⟩ := vx_keep h0 e1 hS hA hf hL hF
    obtain ⟨t2, a1, b1⟩ := kk u t T'.heap (locs ++ L) e1.symm (by rw [← e2]; exact X'.warmed.alike) hp hb k1 k2 k3 T' rfl X'
    exact ⟨t2, st t2 a1, b1⟩
  · obtain ⟨k1, k2, k3⟩ := vx_keep h0 e1 hS hAX hf hL hF
    obtain ⟨t2, a1, b1⟩ := kx E ce q u t T'.heap (locs ++ L) e1.symm (by rw [← e2]; exact X'.warmed.alike) hp hb k1 k2 k3 (by rw [e1]; exact hce) hcv hcl T' rfl X'
    exact ⟨t2, st.trans a1, b1⟩
/-- caught by the row x of this method's table; the rows ahead don't take it -/
theorem vx_catch {own name : String} {E : String} {ce : Cell} {q : Addr} (hown : s.vm.findClass own = some m.cls) (pre : List ExceptionTableEntry) (x : ExceptionTableEntry) (suf : List ExceptionTableEntry) (hsplit : c.exceptionTable.toList = pre ++ x :: suf)
    (hpass : ∀ z ∈ pre, covers z pc = false ∨ (z.catchType ≠ 0 ∧ ∃ nm : String, (Cond.classLink own z.catchType nm).before args s = true ∧ va_Nc E nm s)) (hx : covers x pc = true) (h0 : x.catchType ≠ 0)
    (hlink : (Cond.classLink own x.catchType name).before args s = true) (hcast : (Cond.castable E name).before args s = true) (hcell : H[q]? = some ce) (hv : ce.vm = .none) (hcl : s.vm.findClass E = some ce.cls)
    (kk : W p l e R s m args below meth c H locs cells slots Q (F0 m x.handlerPc ls [.ref q])) : vx_W p l e R s m args below meth c H locs cells slots Q (F0 m pc ls rest) q := by
  intro T hT X
  have hpl : e.platform.magicAccessors = ({} : Platform).magicAccessors := by rw [X.admits.platform]
  obtain ⟨c3, c4, hc3, hc4, hasg⟩ := Cond.castable_spec hcast
  cases Option.some.inj (hc3.symm.trans hcl)
  obtain ⟨c5, hc5, hcl5⟩ := Cond.classLink_spec hown hlink e.platform hpl
  cases Option.some.inj (hc4.symm.trans hc5)
  obtain ⟨vm', X', st⟩ := X.thenCaughtThrough q (g := F0 m pc ls rest) rfl (Steps.refl _) (by rw [hT]; exact hcell) (by rw [hv]; rfl) (by obtain ⟨k9, h9, -⟩ := Vm.findClass_spec hcl; exact ⟨k9, h9⟩) pre x suf hsplit
    (fun z hz => by
      rcases hpass z hz with h | ⟨hz0, nm, hl1, hn1⟩
      · exact Or.inl h
      · obtain ⟨c6, hc6, hcl6⟩ := Cond.classLink_spec hown hl1 e.platform hpl
        obtain ⟨a8, b8, h1, h2, h3⟩ := hn1
        cases Option.some.inj (h1.symm.trans hcl)
        cases Option.some.inj (h2.symm.trans hc6)
        exact Or.inr ⟨hz0, _, hcl6, h3⟩) hx (Or.inr ⟨h0, c4, hcl5, hasg⟩)
  obtain ⟨t, a1, b1⟩ := kk (T.setVm vm') hT X'
  exact ⟨t, st.trans a1, b1⟩
end Rows
section Ends
variable {p : Program} {l : Launch} {e : Env} {R : Room} {s : State} {m : MethodId} {args : Array Value} {below : List Frame} {meth : Method} {c : Code} {H : Heap} {locs : List Loc} {cells slots : Nat} {Q : State → Prop}
variable {mc ms : Nat} {free : Addr → Prop} {A0 A1 : Nat → Prop} {H0 : Heap} {a : Array Value} {ls : Array Slot} {st0 rest : List Value}
variable {Qc : Array Value → State → Outcome → State → Prop} {XC : String → State → State → Prop}
/-- what a body that may throw owes at its end -/
def vx_MQ (below : List Frame) (Qc : Array Value → State → Outcome → State → Prop) (XC : String → State → State → Prop) (a : Array Value) (s : State) (mc ms : Nat) (free : Addr → Prop) : State → Prop := fun t =>
  ∃ o, t.status = .running ∧ Ended t below o ∧ vx_Q Qc XC mc ms free a s o t
theorem vx_ret {g : JFrame} {mc ms : Nat} (k : W p l e R s m args below meth c H locs cells slots (MQ below Qc args s mc ms free) g) : W p l e R s m args below meth c H locs cells slots (vx_MQ below Qc XC args s mc ms free) g := by
  intro T hT X
  obtain ⟨t, a1, o, b1, b2, b3, b4⟩ := k T hT X
  exact ⟨t, a1, o, b1, b2, Or.inl ⟨b3, b4⟩⟩
/-- not caught here: it goes on to the caller -/
theorem vx_widen {g : JFrame} {q : Addr} {k n : Nat} (h1 : cells ≤ k) (h2 : slots ≤ n) (kk : vx_W p l e R s m args below meth c H locs k n Q g q) : vx_W p l e R s m args below meth c H locs cells slots Q g q := fun T hT X => kk T hT (stand_widen X h1 h2)
theorem vx_out {pc : Nat} {E : String} {ce : Cell} {q : Addr} {mc ms : Nat} (hout : ∀ x ∈ c.exceptionTable.toList, covers x pc = false) (hlocks : meth.locks = false) (hcell : H[q]? = some ce) (hv : ce.vm = .none) (hcl : s.vm.findClass E = some ce.cls)
    (hx : ∀ t : State, t.heap = H → s.vm.Alike t.vm → XC E s t) (hf : ∀ z ∈ locs, free z.base) (hc : cells ≤ mc) (hs : slots ≤ ms) :
    vx_W p l e R s m args below meth c H locs cells slots (vx_MQ below Qc XC args s mc ms free) (F0 m pc ls rest) q := by
  intro T hT X
  obtain ⟨st1, hrun, hend, hW, hsm⟩ := X.leaveThrown q (g := F0 m pc ls rest) rfl rfl rfl hout hlocks
  have hcell9 : (T.setFrames (.throwing q :: below)).heap[q]? = some ce := by
    show T.heap[q]? = some ce
    rw [hT]; exact hcell
  exact ⟨_, st1, .threw q, hrun, hend, Or.inr ⟨q, rfl, E, ce, locs, hx _ hT hW.alike, hcell9, hv, hcl, hW, hsm.mono hc hs, hf⟩⟩
theorem vx_frame {U : State} {k n : Nat} (h : s.sameButNew ({ U with vm := s.vm } : State) locs k n) : s.heap.size ≤ U.heap.size ∧ ∀ q : Nat, q < s.heap.size → (∀ z ∈ locs, z.base ≠ q) → U.heap[q]? = s.heap[q]? := by
  obtain ⟨-, h2, -, -, -, h6⟩ := h
  refine ⟨h2, fun q hq hz => ?_⟩
  obtain ⟨c9, e1, e2, e3, e4⟩ := h6 q _ (Array.getElem?_eq_getElem hq)
  have hs : c9.slots = (s.heap[q]).slots := Array.ext_getElem? fun i => e4 i fun hm => hz _ hm rfl
  have h9 : c9 = s.heap[q] := by
    rw [hs] at e2
    exact e2
  have e5 : U.heap[q]? = some c9 := e1
  rw [e5, h9, Array.getElem?_eq_getElem hq]
/-- the words of a throw but the four that speak of the heap -/
def vx_no (w : Cond) : Bool := decide (w ≠ .isRef (.static Bundle.tN "UNASSIGNED_STACK" Bundle.steD)) && decide (w ≠ .isRef (.static Bundle.tN "SUPPRESSED_SENTINEL" Bundle.listD)) && decide (w ≠ .laysStatic Bundle.tN "UNASSIGNED_STACK" Bundle.steD) && decide (w ≠ .laysStatic Bundle.tN "SUPPRESSED_SENTINEL" Bundle.listD)
def vx_at0 (own : String) (ic : Nat) (X : String) (names : List String) : List Cond := (Bundle.ownAtoms0 own ic X names).filter vx_no
def vx_atS (own : String) (ic : Nat) (X : String) (names : List String) : List Cond := (Bundle.ownAtoms own ic X names).filter vx_no
/-- a word that the tables alone decide, or a good one -/
def vx_ot (w : Cond) : Bool := w.onTables || goodWord w
theorem vx_ot_at {args a' : Array Value} {s U : State} {w : Cond} (hW : s.WarmedH U.vm) (hvm : s.vm = U.vm) (hg : vx_ot w = true) (h : w.before args s = true) : w.before a' U = true := by
  simp only [vx_ot, Bool.or_eq_true] at hg
  rcases hg with hg | hg
  · exact va_tabs hg hvm h
  · exact word_at hW (good_of_word hg) h
/-- a list's words: the good ones out of the method's own list, the others by premises of their own -/
theorem vx_hat {args : Array Value} {s : State} {L B : List Cond} (h1 : ∀ w ∈ L.filter goodWord, w.before args s = true) (h2 : ∀ w ∈ L.filter (fun w => !goodWord w), w ∈ B) (h3 : ∀ w ∈ B, w.before args s = true) : ∀ w ∈ L, w.before args s = true := by
  intro w hw
  by_cases g : goodWord w = true
  · exact h1 w (List.mem_filter.mpr ⟨hw, g⟩)
  · refine h3 w (h2 w (List.mem_filter.mpr ⟨hw, ?_⟩))
    show (!goodWord w) = true
    cases hgw : goodWord w
    · rfl
    · exact absurd hgw g
theorem vx_c {args : Array Value} {s : State} {w : Cond} {B : List Cond} (h : w.before args s = true) (t : ∀ w ∈ B, w.before args s = true) : ∀ w' ∈ w :: B, w'.before args s = true := fun w' h' => (List.mem_cons.mp h').elim (fun e => by rw [e]; exact h) (t w')
theorem vx_n {args : Array Value} {s : State} : ∀ w ∈ ([] : List Cond), w.before args s = true := fun _ h => nomatch h
theorem vx_own {args : Array Value} {s : State} {L : List Cond} (h1 : ∀ w ∈ L.filter vx_no, w.before args s = true)
    (hU : (Cond.isRef (.static Bundle.tN "UNASSIGNED_STACK" Bundle.steD)).before args s = true) (hN : (Cond.isRef (.static Bundle.tN "SUPPRESSED_SENTINEL" Bundle.listD)).before args s = true)
    (lU : (Cond.laysStatic Bundle.tN "UNASSIGNED_STACK" Bundle.steD).before args s = true) (lN : (Cond.laysStatic Bundle.tN "SUPPRESSED_SENTINEL" Bundle.listD).before args s = true) : ∀ w ∈ L, w.before args s = true := by
  intro w hw
  by_cases e1 : w = .isRef (.static Bundle.tN "UNASSIGNED_STACK" Bundle.steD)
  · rw [e1]; exact hU
  · by_cases e2 : w = .isRef (.static Bundle.tN "SUPPRESSED_SENTINEL" Bundle.listD)
    · rw [e2]; exact hN
    · by_cases e3 : w = .laysStatic Bundle.tN "UNASSIGNED_STACK" Bundle.steD
      · rw [e3]; exact lU
      · by_cases e4 : w = .laysStatic Bundle.tN "SUPPRESSED_SENTINEL" Bundle.listD
        · rw [e4]; exact lN
        · exact h1 w (List.mem_filter.mpr ⟨hw, by unfold vx_no; rw [decide_eq_true e1, decide_eq_true e2, decide_eq_true e3, decide_eq_true e4]; rfl⟩)
/-- where a static field lies, its class's statics cell in H -/
def vx_L (C n d : String) (A : Nat → Prop) (U : State) (H : Heap) : Prop := ∃ (c : ClassId) (k : Class) (i : Nat) (f : Field) (a : Nat) (cell : Cell), U.vm.findClass C = some c ∧ U.fieldFound? C n d = some (c, k, i, f) ∧ f.isStatic = true ∧ k.statics = some a ∧ H[a]? = some cell ∧ cell.vm.isStatics = true ∧ cell.cls = c ∧ f.slot < cell.slots.size ∧ k.staticTypes[f.slot]? = some f.type ∧ ¬ A a
theorem vx_L.moved {C n d : String} {A : Nat → Prop} {u U : State} {H : Heap} (hvm : u.vm.Alike U.vm) (h : vx_L C n d A u H) : vx_L C n d A U H := by
  obtain ⟨c, k, i, f, a, cell, h1, h2, h3, h4, h5, h6, h7, h8, h9, h10⟩ := h
  obtain ⟨k', hi', he⟩ := State.fieldFound?_setVm hvm h2
  exact ⟨c, k', i, f, a, cell, by rw [hvm.findClass]; exact h1, hi', h3, by rw [he]; exact h4, h5, h6, h7, h8, by rw [he]; exact h9, h10⟩
theorem vx_L.kept {C n d : String} {A : Nat → Prop} {U : State} {H H1 : Heap} (h : vx_L C n d A U H) (hq : ∀ a : Nat, a < H.size → ¬ A a → H1[a]? = H[a]?) : vx_L C n d A U H1 := by
  obtain ⟨c, k, i, f, a, cell, h1, h2, h3, h4, h5, h6, h7, h8, h9, h10⟩ := h
  exact ⟨c, k, i, f, a, cell, h1, h2, h3, h4, by rw [hq a (Array.getElem?_eq_some_iff.mp h5).1 h10]; exact h5, h6, h7, h8, h9, h10⟩
theorem vx_L.narrow {C n d : String} {A B : Nat → Prop} {U : State} {H : Heap} (h : vx_L C n d A U H) (hAB : ∀ q, B q → A q) : vx_L C n d B U H := by
  obtain ⟨c, k, i, f, a, cell, h1, h2, h3, h4, h5, h6, h7, h8, h9, h10⟩ := h
  exact ⟨c, k, i, f, a, cell, h1, h2, h3, h4, h5, h6, h7, h8, h9, fun z => h10 (hAB _ z)⟩
theorem vx_L.word {C n d : String} {A : Nat → Prop} {s : State} {args : Array Value} (h : vx_L C n d A s s.heap) : (Cond.laysStatic C n d).before args s = true := by
  obtain ⟨c, k, i, f, a, cell, h1, h2, h3, h4, h5, h6, h7, h8, h9, -⟩ := h
  show (Cond.laysStatic C n d).holds args s none s [] = true
  exact Cond.laysStatic_of h1 h2 h3 h4 h5 h6 h7 h8 h9
/-- .. and what it holds: null or some reference -/
def vx_Zq (C n d : String) (A : Nat → Prop) (U : State) (H : Heap) : Prop := va_Zq C n d A U H ∧ vx_L C n d A U H
theorem vx_Zq.moved {C n d : String} {A : Nat → Prop} {u U : State} {H : Heap} (hvm : u.vm.Alike U.vm) (h : vx_Zq C n d A u H) : vx_Zq C n d A U H := ⟨va_Zq.moved hvm h.1, vx_L.moved hvm h.2⟩
theorem vx_Zq.kept {C n d : String} {A : Nat → Prop} {U : State} {H H1 : Heap} (h : vx_Zq C n d A U H) (hq : ∀ a : Nat, a < H.size → ¬ A a → H1[a]? = H[a]?) : vx_Zq C n d A U H1 := ⟨va_Zq.kept h.1 hq, vx_L.kept h.2 hq⟩
theorem vx_Zq.narrow {C n d : String} {A B : Nat → Prop} {U : State} {H : Heap} (h : vx_Zq C n d A U H) (hAB : ∀ q, B q → A q) : vx_Zq C n d B U H := ⟨va_Zq.narrow h.1 hAB, vx_L.narrow h.2 hAB⟩
theorem vx_Zqof {args : Array Value} {s : State} {C n d : String} {A : Nat → Prop} (hl : (Cond.laysStatic C n d).before args s = true) (hini : (Cond.initialized C).before args s = true) (h : (Cond.isRef (.static C n d)).before args s = true) (hA : ∀ a : Nat, a < s.heap.size → ¬ A a) : vx_Zq C n d A s s.heap := by
  refine ⟨va_Zqof hl hini h hA, ?_⟩
  obtain ⟨c, k, i, f, a, cell, h1, h2, h3, h4, h5, h6, h7, h8, h9⟩ := Cond.laysStatic_spec hl
  exact ⟨c, k, i, f, a, cell, h1, h2, h3, h4, h5, h6, h7, h8, h9, hA a (Array.getElem?_eq_some_iff.mp h5).1⟩
theorem vx_isRef {C n d : String} {v : Value} {A : Nat → Prop} {s : State} {args : Array Value} (h : va_Z C n d v A s s.heap) (hv : v.isRef = true) : (Cond.isRef (.static C n d)).before args s = true := by
  obtain ⟨cf, kf, fi, f, a, cell, h1, h2, h3, h4, h5, h6, h7, -⟩ := h
  have he : (Term.static C n d).eval args s none [] s = some v := by
    simp [Term.eval, State.fieldNamed?, h1, h2, h4, h5, h6, h7]
  simp only [Cond.before, Cond.holds, Cond.value, he]
  cases v <;> simp_all [Value.isRef]
theorem vx_isRefq {C n d : String} {A : Nat → Prop} {s : State} {args : Array Value} (h : va_Zq C n d A s s.heap) : (Cond.isRef (.static C n d)).before args s = true := by
  rcases h with h | ⟨t, h⟩
  · exact vx_isRef h rfl
  · exact vx_isRef h rfl
/-- the same frame, seen from here: as if the method were called anew in this heap -/
theorem vx_rebase {T : State} (X : Stand p l e R s m args below meth c T locs cells slots) {R' : Room} (hf : R'.frames ≤ R.frames) (hl : R'.locals ≤ R.locals) (hc : cells + R'.cells ≤ R.cells) (hs : slots + R'.slots ≤ R.slots) :
    Stand p l e R' ((T.setVm s.vm).setFrames (.invoking m args :: below)) m args below meth c T [] 0 0 := by
  have htop : (T.setVm s.vm).topJava?.isSome := X.here.top
  have hF : ((T.setVm s.vm).setFrames (.invoking m args :: below)).frames = .invoking m args :: below := State.frames_setFrames _ (State.cur_lt_of_top htop)
  obtain ⟨g₀, hg0⟩ := Option.isSome_iff_exists.mp htop
  obtain ⟨r, hr⟩ := State.topJava?_eq_some.mp hg0
  have hl9 : e.platform.stackLimits (T.setVm s.vm).me = e.platform.stackLimits s.me := X.limits
  have hb9 : (T.setVm s.vm).me.stackBytes = s.me.stackBytes := X.bytes
  refine ⟨X.admits, X.cas, X.clock, hF, ?_, X.hears, X.method, X.code, X.here, X.tail, X.warmed, ?_, ?_, ?_⟩
  · have h := X.room
    have hU : ((T.setVm s.vm).setFrames (.invoking m args :: below)).localsInUse = s.localsInUse := by
      rw [State.localsInUse_invoking hF (meth := meth) (c := c) X.method X.code, State.localsInUse_invoking X.frames X.method X.code]
    simp only [State.hasRoom, Bool.and_eq_true, decide_eq_true_eq] at h ⊢
    obtain ⟨⟨⟨⟨h1, h2, h3, h4, h5, h6⟩, h7⟩, h8⟩, h9⟩ := h
    rw [X.frames, List.length_cons] at h2 h3
    have q1 := X.heapSize
    have q2 := X.used
    simp only [hF, hU, List.length_cons, State.stackLimits_setFrames, State.stackBytes_setFrames, hl9, hb9]
    refine ⟨⟨⟨⟨by omega, by omega, by omega, by omega, by omega, h6⟩, ?_⟩, ?_⟩, X.book⟩
    · show T.heap.size + R'.cells ≤ e.platform.maxCells
      omega
    · show T.slotsUsed + R'.slots ≤ e.platform.maxSlots
      omega
  · rw [State.stackLimits_setFrames]; rfl
  · rw [State.stackBytes_setFrames]; rfl
  · refine ⟨?_, Nat.le_refl _, Nat.le_refl _, ?_, ?_, fun a c9 h9 => ⟨c9, h9, rfl, rfl, fun _ _ => rfl⟩⟩
    · obtain ⟨t, ht, -⟩ := State.frames_cons hr
      show T.setVm s.vm = { ((T.setVm s.vm).setFrames (.invoking m args :: below)).setFrames (T.setVm s.vm).frames with heap := T.heap, slotsUsed := T.slotsUsed }
      rw [State.setFrames_setFrames, State.setFrames_self ht]
      rfl
    · show T.slotsUsed = T.slotsUsed + ((T.heap.toList.drop T.heap.size).map (·.slots.size)).sum
      rw [List.drop_eq_nil_of_le (Nat.le_of_eq Array.length_toList)]
      rfl
    · show ((T.heap.toList.drop T.heap.size).map (·.slots.size)).sum ≤ 0
      rw [List.drop_eq_nil_of_le (Nat.le_of_eq Array.length_toList)]
      exact Nat.le_refl _
/-- 'throw new E()': new; dup; invokespecial; athrow -/
theorem vx_throw0 {cc : ByteArray} {pc : Nat} (hexec : p.tables.exec = Jvm.exec) (hb : c.code = cc) (hl : l.stackTraces = false) {own cls : String} {names : List String} {ik ic mc ms : Nat} {A : Nat → Prop}
    (hown : s.vm.findClass own = some m.cls) (hcls : Bundle.fit cls = true) (hnames : ∀ n ∈ names, Bundle.fit n = true)
    (hk : (Cond.classLink own ik cls).before args s = true) (hini : (Cond.initialized cls).before args s = true) (hat : ∀ w ∈ vx_at0 own ic cls names, w.before args s = true)
    (hgood : ∀ w ∈ Cond.classLink own ik cls :: Cond.initialized cls :: vx_at0 own ic cls names, vx_ot w = true)
    (hU : vx_Zq Bundle.tN "UNASSIGNED_STACK" Bundle.steD A s s.heap) (hN : vx_Zq Bundle.tN "SUPPRESSED_SENTINEL" Bundle.listD A s s.heap) (hS : va_S A s.heap H locs) (hsize : ls.size = c.maxLocals)
    (d0 : decode cc pc = .ok (.new ik, 3)) (d3 : decode cc (pc + 3) = .ok (.dup, 1)) (d4 : decode cc (pc + 4) = .ok (.invokespecial ic, 3)) (d7 : decode cc (pc + 7) = .ok (.athrow, 1))
    (hout : ∀ x ∈ c.exceptionTable.toList, covers x (pc + 7) = false)
    (hRframes : names.length + 3 < R.frames) (hRlocals : (rest.map fun v => v.category).sum + (13 * (names.length + 1) + 42) ≤ R.locals) (hRcells : cells + 1 ≤ R.cells) (hRslots : slots + 6 ≤ R.slots) (hlocks : meth.locks = false)
    (hx : ∀ t : State, s.vm.Alike t.vm → H.size ≤ t.heap.size → (∀ q : Nat, q < H.size → t.heap[q]? = H[q]?) → XC cls s t)
    (hf : ∀ z ∈ locs, free z.base) (hc : cells + 1 ≤ mc) (hs : slots + 6 ≤ ms) :
    W p l e R s m args below meth c H locs cells slots (vx_MQ below Qc XC args s mc ms free) (F0 m pc ls rest) := by
  intro T hT X
  have htr : e.platform.stackTraces = false := (show e.platform.stackTraces = l.stackTraces by rw [X.admits.platform]).trans hl
  have Y := vx_rebase X (R' := { frames := R.frames, locals := R.locals, cells := 1, slots := 6 }) (Nat.le_refl _) (Nat.le_refl _) hRcells hRslots
  obtain ⟨s', hA⟩ : ∃ z, z = (T.setVm s.vm).setFrames (.invoking m args :: below) := ⟨_, rfl⟩
  rw [← hA] at Y
  have hvm : s'.vm = s.vm := by rw [hA]; rfl
  have hhp : s'.heap = H := by rw [hA]; exact hT
  have hW0 : s.WarmedH s'.vm := by rw [hvm]; exact State.WarmedH.refl s
  have hat' : ∀ w ∈ vx_at0 own ic cls names, w.before args s' = true := fun w hw => vx_ot_at hW0 hvm.symm (hgood w (List.mem_cons_of_mem _ (List.mem_cons_of_mem _ hw))) (hat w hw)
  have hk' : (Cond.classLink own ik cls).before args s' = true := vx_ot_at hW0 hvm.symm (hgood _ List.mem_cons_self) hk
  have hini' : (Cond.initialized cls).before args s' = true := vx_ot_at hW0 hvm.symm (hgood _ (List.mem_cons_of_mem _ List.mem_cons_self)) hini
  have hU' : vx_Zq Bundle.tN "UNASSIGNED_STACK" Bundle.steD A s' s'.heap := by rw [hhp]; exact vx_Zq.moved hW0.alike (hU.kept hS.2.1)
  have hN' : vx_Zq Bundle.tN "SUPPRESSED_SENTINEL" Bundle.listD A s' s'.heap := by rw [hhp]; exact vx_Zq.moved hW0.alike (hN.kept hS.2.1)
  have h : ∀ w ∈ Bundle.ownAtoms0 own ic cls names, w.before args s' = true := vx_own hat' (vx_isRefq hU'.1) (vx_isRefq hN'.1) hU'.2.word hN'.2.word
  have hown' : s'.vm.findClass own = some m.cls := by rw [hvm]; exact hown
  have hins : (Cond.instantiable cls 6).before args s' = true := h _ (by simp [Bundle.ownAtoms0])
  obtain ⟨vm₁, cX, kX, hfX, hkX, -, -, X₁, st1⟩ := Y.newCold hexec (own := own) (C := cls) (index := ik) (n := 6) hown' hk' hins hini'
    (g := F0 m pc ls rest) rfl (by rw [hb]; exact d0) (Nat.le_refl _) (Nat.le_refl _)
  generalize hT1 : (T.setVm vm₁).pushCell { cls := cX, slots := kX.instanceTypes.map defaultValue, vm := .none } = T1 at X₁ st1
  have hcat : (Value.ref T.heap.size).category = 1 := rfl
  have hcellA : T1.heap[T.heap.size]? = some (freshCell cX kX) := by rw [← hT1]; exact State.heap_pushCell_size _ _
  have d3' : decode c.code (pc + 3) = .ok (.dup, 1) := by rw [hb]; exact d3
  obtain ⟨U, hsteps, hrun, hend, hW, hsame, ce, hce, hO⟩ := X₁.ctorThrow0 hexec htr (own := own) (cls := cls) (names := names) (ic := ic) hown' hcls hnames h (fun x hx => nomatch hx) hfX hkX hcellA (by rw [hhp, hT]; exact Nat.le_refl _)
    (g := { method := m, pc := pc + 4, locals := ls, stack := .ref T.heap.size :: .ref T.heap.size :: rest, locked := none }) rfl hsize rfl rfl (rest := rest) rfl
    (by rw [hb]; exact d4) (by rw [hb]; exact d7) hout hRframes (by simp only [List.map_cons, List.sum_cons, hcat]; omega) hlocks
  obtain ⟨f1, f2⟩ := vx_frame hsame
  rw [hhp] at f1 f2
  have hWs : s.WarmedH U.vm := State.WarmedH.trans hW0 hW
  have hcl : s.vm.findClass cls = some ce.cls := by
    have h9 := hO.cls
    rw [hvm] at h9
    exact h9
  have hall : s.sameButNew ({ U with vm := s.vm } : State) locs mc ms := by
    subst hA
    obtain ⟨e1, e2⟩ := hsame
    rw [State.setFrames_setFrames] at e1
    have h2 : (T.setVm s.vm).sameButNew ({ U with vm := s.vm } : State) [] (0 + 1) (0 + 6) := ⟨e1, e2⟩
    have h3 := X.same.trans h2
    rw [List.append_nil] at h3
    exact h3.mono hc hs
  refine ⟨U, ?_, .threw T.heap.size, hrun, hend, Or.inr ⟨T.heap.size, rfl, cls, ce, locs, hx U hWs.alike f1 (fun q hq => f2 q hq (fun z hz => nomatch hz)), hce, hO.vm, hcl, hWs, hall, hf⟩⟩
  refine st1 _ ?_
  show Steps p.tables e below (T1.setTop { method := m, pc := pc + 3, locals := ls, stack := .ref T.heap.size :: rest, locked := none }) _
  jvm_step X₁.here [X₁.here.top, hexec, d3', Value.category]
  exact hsteps
/-- 'throw new E("text")': new; dup; ldc; invokespecial; athrow -/
theorem vx_throwS {cc : ByteArray} {pc : Nat} (hexec : p.tables.exec = Jvm.exec) (hb : c.code = cc) (hl : l.stackTraces = false) {own cls text : String} {names : List String} {ik is ic mc ms sa : Nat} {A : Nat → Prop}
    (hown : s.vm.findClass own = some m.cls) (hcls : Bundle.fit cls = true) (hnames : ∀ n ∈ names, Bundle.fit n = true)
    (hk : (Cond.classLink own ik cls).before args s = true) (hini : (Cond.initialized cls).before args s = true) (hstr : vk_R own is text sa s) (hat : ∀ w ∈ vx_atS own ic cls names, w.before args s = true)
    (hgood : ∀ w ∈ Cond.classLink own ik cls :: Cond.initialized cls :: vx_atS own ic cls names, vx_ot w = true)
    (hU : vx_Zq Bundle.tN "UNASSIGNED_STACK" Bundle.steD A s s.heap) (hN : vx_Zq Bundle.tN "SUPPRESSED_SENTINEL" Bundle.listD A s s.heap) (hS : va_S A s.heap H locs) (hsize : ls.size = c.maxLocals)
    (d0 : decode cc pc = .ok (.new ik, 3)) (d3 : decode cc (pc + 3) = .ok (.dup, 1)) (d4 : decode cc (pc + 4) = .ok (.ldc is, 2)) (d6 : decode cc (pc + 6) = .ok (.invokespecial ic, 3)) (d9 : decode cc (pc + 9) = .ok (.athrow, 1))
    (hout : ∀ x ∈ c.exceptionTable.toList, covers x (pc + 9) = false)
    (hRframes : names.length + 3 < R.frames) (hRlocals : (rest.map fun v => v.category).sum + (13 * (names.length + 1) + 43) ≤ R.locals) (hRcells : cells + 1 ≤ R.cells) (hRslots : slots + 6 ≤ R.slots) (hlocks : meth.locks = false)
    (hx : ∀ t : State, s.vm.Alike t.vm → H.size ≤ t.heap.size → (∀ q : Nat, q < H.size → t.heap[q]? = H[q]?) → XC cls s t)
    (hf : ∀ z ∈ locs, free z.base) (hc : cells + 1 ≤ mc) (hs : slots + 6 ≤ ms) :
    W p l e R s m args below meth c H locs cells slots (vx_MQ below Qc XC args s mc ms free) (F0 m pc ls rest) := by
  intro T hT X
  have htr : e.platform.stackTraces = false := (show e.platform.stackTraces = l.stackTraces by rw [X.admits.platform]).trans hl
  have Y := vx_rebase X (R' := { frames := R.frames, locals := R.locals, cells := 1, slots := 6 }) (Nat.le_refl _) (Nat.le_refl _) hRcells hRslots
  obtain ⟨s', hA⟩ : ∃ z, z = (T.setVm s.vm).setFrames (.invoking m args :: below) := ⟨_, rfl⟩
  rw [← hA] at Y
  have hvm : s'.vm = s.vm := by rw [hA]; rfl
  have hhp : s'.heap = H := by rw [hA]; exact hT
  have hW0 : s.WarmedH s'.vm := by rw [hvm]; exact State.WarmedH.refl s
  have hat' : ∀ w ∈ vx_atS own ic cls names, w.before args s' = true := fun w hw => vx_ot_at hW0 hvm.symm (hgood w (List.mem_cons_of_mem _ (List.mem_cons_of_mem _ hw))) (hat w hw)
  have hk' : (Cond.classLink own ik cls).before args s' = true := vx_ot_at hW0 hvm.symm (hgood _ List.mem_cons_self) hk
  have hini' : (Cond.initialized cls).before args s' = true := vx_ot_at hW0 hvm.symm (hgood _ (List.mem_cons_of_mem _ List.mem_cons_self)) hini
  have hU' : vx_Zq Bundle.tN "UNASSIGNED_STACK" Bundle.steD A s' s'.heap := by rw [hhp]; exact vx_Zq.moved hW0.alike (hU.kept hS.2.1)
  have hN' : vx_Zq Bundle.tN "SUPPRESSED_SENTINEL" Bundle.listD A s' s'.heap := by rw [hhp]; exact vx_Zq.moved hW0.alike (hN.kept hS.2.1)
  have h : ∀ w ∈ Bundle.ownAtoms own ic cls names, w.before args s' = true := vx_own hat' (vx_isRefq hU'.1) (vx_isRefq hN'.1) hU'.2.word hN'.2.word
  have hown' : s'.vm.findClass own = some m.cls := by rw [hvm]; exact hown
  have hins : (Cond.instantiable cls 6).before args s' = true := h _ (by simp [Bundle.ownAtoms])
  obtain ⟨vm₁, cX, kX, hfX, hkX, -, -, X₁, st1⟩ := Y.newCold hexec (own := own) (C := cls) (index := ik) (n := 6) hown' hk' hins hini'
    (g := F0 m pc ls rest) rfl (by rw [hb]; exact d0) (Nat.le_refl _) (Nat.le_refl _)
  generalize hT1 : (T.setVm vm₁).pushCell { cls := cX, slots := kX.instanceTypes.map defaultValue, vm := .none } = T1 at X₁ st1
  have hcat : (Value.ref T.heap.size).category = 1 := rfl
  have hcellA : T1.heap[T.heap.size]? = some (freshCell cX kX) := by rw [← hT1]; exact State.heap_pushCell_size _ _
  have d3' : decode c.code (pc + 3) = .ok (.dup, 1) := by rw [hb]; exact d3
  have d4' : decode c.code (pc + 4) = .ok (.ldc is, 2) := by rw [hb]; exact d4
  have hstr' : vk_R own is text sa s' := vk_R.warm hW0 hstr
  obtain ⟨U, hsteps, hrun, hend, hW, hsame, ce, hce, hO⟩ := X₁.ctorThrowS hexec htr (own := own) (cls := cls) (names := names) (ic := ic) hown' hcls hnames h (fun x hx => nomatch hx) hfX hkX hcellA (by rw [hhp, hT]; exact Nat.le_refl _) (msg := .ref sa) rfl
    (g := { method := m, pc := pc + 6, locals := ls, stack := .ref sa :: .ref T.heap.size :: .ref T.heap.size :: rest, locked := none }) rfl hsize rfl rfl (rest := rest) rfl
    (by rw [hb]; exact d6) (by rw [hb]; exact d9) hout hRframes (by simp only [List.map_cons, List.sum_cons, hcat]; omega) hlocks
  obtain ⟨f1, f2⟩ := vx_frame hsame
  rw [hhp] at f1 f2
  have hWs : s.WarmedH U.vm := State.WarmedH.trans hW0 hW
  have hcl : s.vm.findClass cls = some ce.cls := by
    have h9 := hO.cls
    rw [hvm] at h9
    exact h9
  have hall : s.sameButNew ({ U with vm := s.vm } : State) locs mc ms := by
    subst hA
    obtain ⟨e1, e2⟩ := hsame
    rw [State.setFrames_setFrames] at e1
    have h2 : (T.setVm s.vm).sameButNew ({ U with vm := s.vm } : State) [] (0 + 1) (0 + 6) := ⟨e1, e2⟩
    have h3 := X.same.trans h2
    rw [List.append_nil] at h3
    exact h3.mono hc hs
  refine ⟨U, ?_, .threw T.heap.size, hrun, hend, Or.inr ⟨T.heap.size, rfl, cls, ce, locs, hx U hWs.alike f1 (fun q hq => f2 q hq (fun z hz => nomatch hz)), hce, hO.vm, hcl, hWs, hall, hf⟩⟩
  refine st1 _ ?_
  show Steps p.tables e below (T1.setTop { method := m, pc := pc + 3, locals := ls, stack := .ref T.heap.size :: rest, locked := none }) _
  jvm_step X₁.here [X₁.here.top, hexec, d3', Value.category]
  exact X₁.ldcString hexec (own := own) (text := text) (index := is) (a := sa) hown' hstr'.1 hstr'.2
    (g := { method := m, pc := pc + 4, locals := ls, stack := .ref T.heap.size :: .ref T.heap.size :: rest, locked := none }) rfl d4' _ hsteps
/-- 'throw new E("text")', the text by a wide index -/
theorem vx_throwSW {cc : ByteArray} {pc : Nat} (hexec : p.tables.exec = Jvm.exec) (hb : c.code = cc) (hl : l.stackTraces = false) {own cls text : String} {names : List String} {ik is ic mc ms sa : Nat} {A : Nat → Prop}
    (hown : s.vm.findClass own = some m.cls) (hcls : Bundle.fit cls = true) (hnames : ∀ n ∈ names, Bundle.fit n = true)
    (hk : (Cond.classLink own ik cls).before args s = true) (hini : (Cond.initialized cls).before args s = true) (hstr : vk_R own is text sa s) (hat : ∀ w ∈ vx_atS own ic cls names, w.before args s = true)
    (hgood : ∀ w ∈ Cond.classLink own ik cls :: Cond.initialized cls :: vx_atS own ic cls names, vx_ot w = true)
    (hU : vx_Zq Bundle.tN "UNASSIGNED_STACK" Bundle.steD A s s.heap) (hN : vx_Zq Bundle.tN "SUPPRESSED_SENTINEL" Bundle.listD A s s.heap) (hS : va_S A s.heap H locs) (hsize : ls.size = c.maxLocals)
    (d0 : decode cc pc = .ok (.new ik, 3)) (d3 : decode cc (pc + 3) = .ok (.dup, 1)) (d4 : decode cc (pc + 4) = .ok (.ldc_w is, 3)) (d7 : decode cc (pc + 7) = .ok (.invokespecial ic, 3)) (d10 : decode cc (pc + 10) = .ok (.athrow, 1))
    (hout : ∀ x ∈ c.exceptionTable.toList, covers x (pc + 10) = false)
    (hRframes : names.length + 3 < R.frames) (hRlocals : (rest.map fun v => v.category).sum + (13 * (names.length + 1) + 43) ≤ R.locals) (hRcells : cells + 1 ≤ R.cells) (hRslots : slots + 6 ≤ R.slots) (hlocks : meth.locks = false)
    (hx : ∀ t : State, s.vm.Alike t.vm → H.size ≤ t.heap.size → (∀ q : Nat, q < H.size → t.heap[q]? = H[q]?) → XC cls s t)
    (hf : ∀ z ∈ locs, free z.base) (hc : cells + 1 ≤ mc) (hs : slots + 6 ≤ ms) :
    W p l e R s m args below meth c H locs cells slots (vx_MQ below Qc XC args s mc ms free) (F0 m pc ls rest) := by
  intro T hT X
  have htr : e.platform.stackTraces = false := (show e.platform.stackTraces = l.stackTraces by rw [X.admits.platform]).trans hl
  have Y := vx_rebase X (R' := { frames := R.frames, locals := R.locals, cells := 1, slots := 6 }) (Nat.le_refl _) (Nat.le_refl _) hRcells hRslots
  obtain ⟨s', hA⟩ : ∃ z, z = (T.setVm s.vm).setFrames (.invoking m args :: below) := ⟨_, rfl⟩
  rw [← hA] at Y
  have hvm : s'.vm = s.vm := by rw [hA]; rfl
  have hhp : s'.heap = H := by rw [hA]; exact hT
  have hW0 : s.WarmedH s'.vm := by rw [hvm]; exact State.WarmedH.refl s
  have hat' : ∀ w ∈ vx_atS own ic cls names, w.before args s' = true := fun w hw => vx_ot_at hW0 hvm.symm (hgood w (List.mem_cons_of_mem _ (List.mem_cons_of_mem _ hw))) (hat w hw)
  have hk' : (Cond.classLink own ik cls).before args s' = true := vx_ot_at hW0 hvm.symm (hgood _ List.mem_cons_self) hk
  have hini' : (Cond.initialized cls).before args s' = true := vx_ot_at hW0 hvm.symm (hgood _ (List.mem_cons_of_mem _ List.mem_cons_self)) hini
  have hU' : vx_Zq Bundle.tN "UNASSIGNED_STACK" Bundle.steD A s' s'.heap := by rw [hhp]; exact vx_Zq.moved hW0.alike (hU.kept hS.2.1)
  have hN' : vx_Zq Bundle.tN "SUPPRESSED_SENTINEL" Bundle.listD A s' s'.heap := by rw [hhp]; exact vx_Zq.moved hW0.alike (hN.kept hS.2.1)
  have h : ∀ w ∈ Bundle.ownAtoms own ic cls names, w.before args s' = true := vx_own hat' (vx_isRefq hU'.1) (vx_isRefq hN'.1) hU'.2.word hN'.2.word
  have hown' : s'.vm.findClass own = some m.cls := by rw [hvm]; exact hown
  have hins : (Cond.instantiable cls 6).before args s' = true := h _ (by simp [Bundle.ownAtoms])
  obtain ⟨vm₁, cX, kX, hfX, hkX, -, -, X₁, st1⟩ := Y.newCold hexec (own := own) (C := cls) (index := ik) (n := 6) hown' hk' hins hini'
    (g := F0 m pc ls rest) rfl (by rw [hb]; exact d0) (Nat.le_refl _) (Nat.le_refl _)
  generalize hT1 : (T.setVm vm₁).pushCell { cls := cX, slots := kX.instanceTypes.map defaultValue, vm := .none } = T1 at X₁ st1
  have hcat : (Value.ref T.heap.size).category = 1 := rfl
  have hcellA : T1.heap[T.heap.size]? = some (freshCell cX kX) := by rw [← hT1]; exact State.heap_pushCell_size _ _
  have d3' : decode c.code (pc + 3) = .ok (.dup, 1) := by rw [hb]; exact d3
  have d4' : decode c.code (pc + 4) = .ok (.ldc_w is, 3) := by rw [hb]; exact d4
  have hstr' : vk_R own is text sa s' := vk_R.warm hW0 hstr
  obtain ⟨U, hsteps, hrun, hend, hW, hsame, ce, hce, hO⟩ := X₁.ctorThrowS hexec htr (own := own) (cls := cls) (names := names) (ic := ic) hown' hcls hnames h (fun x hx => nomatch hx) hfX hkX hcellA (by rw [hhp, hT]; exact Nat.le_refl _) (msg := .ref sa) rfl
    (g := { method := m, pc := pc + 7, locals := ls, stack := .ref sa :: .ref T.heap.size :: .ref T.heap.size :: rest, locked := none }) rfl hsize rfl rfl (rest := rest) rfl
    (by rw [hb]; exact d7) (by rw [hb]; exact d10) hout hRframes (by simp only [List.map_cons, List.sum_cons, hcat]; omega) hlocks
  obtain ⟨f1, f2⟩ := vx_frame hsame
  rw [hhp] at f1 f2
  have hWs : s.WarmedH U.vm := State.WarmedH.trans hW0 hW
  have hcl : s.vm.findClass cls = some ce.cls := by
    have h9 := hO.cls
    rw [hvm] at h9
    exact h9
  have hall : s.sameButNew ({ U with vm := s.vm } : State) locs mc ms := by
    subst hA
    obtain ⟨e1, e2⟩ := hsame
    rw [State.setFrames_setFrames] at e1
    have h2 : (T.setVm s.vm).sameButNew ({ U with vm := s.vm } : State) [] (0 + 1) (0 + 6) := ⟨e1, e2⟩
    have h3 := X.same.trans h2
    rw [List.append_nil] at h3
    exact h3.mono hc hs
  refine ⟨U, ?_, .threw T.heap.size, hrun, hend, Or.inr ⟨T.heap.size, rfl, cls, ce, locs, hx U hWs.alike f1 (fun q hq => f2 q hq (fun z hz => nomatch hz)), hce, hO.vm, hcl, hWs, hall, hf⟩⟩
  refine st1 _ ?_
  show Steps p.tables e below (T1.setTop { method := m, pc := pc + 3, locals := ls, stack := .ref T.heap.size :: rest, locked := none }) _
  jvm_step X₁.here [X₁.here.top, hexec, d3', Value.category]
  exact X₁.ldcStringW hexec (own := own) (text := text) (index := is) (a := sa) hown' hstr'.1 hstr'.2
    (g := { method := m, pc := pc + 4, locals := ls, stack := .ref T.heap.size :: .ref T.heap.size :: rest, locked := none }) rfl d4' _ hsteps
end Ends
section Bodies
variable {l : Launch}
theorem vx_ofW {y : MethodName} {ws ws' : List Cond} {rm : Room} {Pc : Array Value → State → Prop} {Qc : Array Value → State → Outcome → State → Prop} {XC : String → State → State → Prop} {mc ms : Nat} {free : Addr → Prop} {cc : ByteArray} {maxL : Nat} {ret : Option FieldType}
    (hy : plainName y.cls = true) (hw : ws = Cond.code y cc maxL ret :: ws')
    (body : ∀ p e s m args below meth c s₁, BodyLoose p l y (headSpec ws rm) cc maxL ret e s m args below meth c s₁ → c.maxLocals = maxL → (∀ x ∈ c.exceptionTable.toList, False) → Pc args s →
      W p l e (headSpec ws rm).room s m args below meth c s.heap [] 0 0 (vx_MQ below Qc XC args s mc ms free) (entryFrame m args maxL)) : vx_Met l y ws rm Pc Qc XC mc ms free := by
  refine MetFree.of_bodyS (code := cc) (maxLocals := maxL) (ret := ret) hy ?_ ?_
  · intro args s m h hn
    obtain ⟨meth, c, h1, h2, h3, h4, h5, h6, -, -⟩ := Cond.code_spec hn (atoms_spec (ws := ws) h _ (by rw [hw]; exact List.mem_cons_self))
    exact ⟨meth, c, h1, h2, h3, h4, h5, h6⟩
  · intro p e s m args below meth c s₁ B hml hP _
    have hh0 : s₁.heap = s.heap := by rw [B.state]; rfl
    have ht : ∀ x ∈ c.exceptionTable.toList, False := by
      obtain ⟨meth9, c9, h1, h2, -, -, -, -, h7, -⟩ := Cond.code_spec B.named (atoms_spec (ws := ws) B.pre _ (by rw [hw]; exact List.mem_cons_self))
      cases Option.some.inj (h1.symm.trans B.method)
      cases Option.some.inj (h2.symm.trans (Stand.of_body B).code)
      intro x hx
      rw [Array.isEmpty_iff.mp h7] at hx
      cases hx
    obtain ⟨t, a1, o, b1, b2, b3⟩ := body p e s m args below meth c s₁ B hml ht hP s₁ hh0 (Stand.of_body B)
    exact ⟨t, o, a1, b1, b2, b3⟩
/-- the table of a body with handlers -/
theorem vx_table {p : Program} {x y : MethodName} {S : Spec} {cc bytes : ByteArray} {maxL maxL' : Nat} {ret ret' : Option FieldType} {e : Env} {s s₁ : State} {m : MethodId} {args : Array Value} {below : List Frame} {meth : Method} {c : Code} {hh : List (Nat × Nat × Nat × Nat)}
    (B : BodyLoose p l y S cc maxL ret e s m args below meth c s₁) (h : (Cond.codeWith y bytes maxL' ret' hh).before args s = true) : c.exceptionTable.toList = tableOf hh := by
  obtain ⟨m9, meth9, c9, hn9, h1, h2, -, -, h6, -⟩ := Cond.codeWith_spec h
  cases Option.some.inj (hn9.symm.trans B.named)
  cases Option.some.inj (h1.symm.trans B.method)
  cases Option.some.inj (h2.symm.trans (Stand.of_body B).code)
  rw [← h6, table_eq]
end Bodies
end VXA
/-! ===== END ===== -/
/-! ===== BEGIN a static call of a method with an exception table ===== -/
section VXS
variable {p : Program} {l : Launch} {e : Env} {R : Room} {s : State} {m : MethodId} {args : Array Value} {below : List Frame} {meth : Method} {c : Code} {T : State} {H : Heap} {locs : List Loc} {cells slots : Nat}
abbrev vx_CSW (R : Room) (s : State) (args : Array Value) (own : String) (index : Nat) (y : MethodName) (bytes : ByteArray) (maxL : Nat) (ret : Option FieldType) (hh : List (Nat × Nat × Nat × Nat)) (ws : List Cond) (rm : Room) (mc ms n : Nat) : Prop :=
  (rm.cells = mc ∧ rm.slots = ms ∧ rm.frames + 1 ≤ R.frames ∧ 8 + (maxL + 11) + rm.locals ≤ R.locals ∧ (∀ w ∈ ws, ∀ (a' : Array Value) (U : State), s.WarmedH U.vm → w.before a' U = true) ∧ Cond.codeWith y bytes maxL ret hh ∈ ws) ∧
  (Cond.codeWith y bytes maxL ret hh).before args s = true ∧ (Cond.initialized y.cls).before args s = true ∧ (y.cls ≠ "java/lang/invoke/MethodHandle" ∧ y.cls ≠ "java/lang/invoke/VarHandle") ∧
  (∀ sig, parseMethodDescriptor y.desc = some sig → n = sig.parameters.length) ∧ (Cond.methodLink own index y).before args s = true ∧ (Cond.static y).before args s = true
theorem vx_cwSW {own : String} {index maxL mc ms : Nat} {y : MethodName} {bytes : ByteArray} {ret : Option FieldType} {hh : List (Nat × Nat × Nat × Nat)} {Ts ws ws' : List Cond} {rm : Room} (n : Nat) (ht : ∀ w ∈ Ts, w.before args s = true) (hT : GoodIn Ts (va_wsS own index y ws)) (hw : ws = Cond.codeWith y bytes maxL ret hh :: ws') (hrc : rm.cells = mc) (hrs : rm.slots = ms)
    (hd : y.cls ≠ "java/lang/invoke/MethodHandle" ∧ y.cls ≠ "java/lang/invoke/VarHandle" ∧ (parseMethodDescriptor y.desc).map (fun d => d.parameters.length) = some n) (hR : rm.frames + 1 ≤ R.frames ∧ 8 + (maxL + 11) + rm.locals ≤ R.locals) :
    vx_CSW R s args own index y bytes maxL ret hh ws rm mc ms n := by
  have ok : ∀ w ∈ va_wsS own index y ws, w.before args s = true := fun w h => ht w (hT w h).1
  have hG : GoodIn Ts ws := fun w h => hT w (by unfold va_wsS; exact List.mem_append_right _ h)
  have hc : Cond.codeWith y bytes maxL ret hh ∈ ws := by rw [hw]; exact List.mem_cons_self
  refine ⟨⟨hrc, hrs, hR.1, hR.2, pay_in ht hG, hc⟩, ht _ (hG _ hc).1, ok _ (by simp [va_wsS]), ⟨hd.1, hd.2.1⟩, fun sig h => ?_, ok _ (by simp [va_wsS]), ok _ (by simp [va_wsS])⟩
  have h2 := hd.2.2
  rw [h] at h2
  exact (Option.some.inj h2).symm
theorem vx_callSW (X : Stand p l e R s m args below meth c T locs cells slots) (hexec : p.tables.exec = Jvm.exec) {own : String} {index : Nat} {y : MethodName} {bytes : ByteArray} {maxL : Nat} {ret : Option FieldType} {hh : List (Nat × Nat × Nat × Nat)}
    (hown : s.vm.findClass own = some m.cls) (hlink : (Cond.methodLink own index y).before args s = true) (hstat : (Cond.static y).before args s = true) (hinit : (Cond.initialized y.cls).before args s = true)
    (hcode : (Cond.codeWith y bytes maxL ret hh).before args s = true) (hy : y.cls ≠ "java/lang/invoke/MethodHandle" ∧ y.cls ≠ "java/lang/invoke/VarHandle")
    {W9 : Nat} {Pre : Pt → Array Value → Prop} {Post : Pt → Array Value → Option Value → Pt → Prop} (hK : Back l R p e below s args y 3 W9 Pre Post)
    {g : JFrame} (hg : g.method = m) (hsize : g.locals.size = c.maxLocals) {argsL rest : List Value} (hlen : ∀ sig, parseMethodDescriptor y.desc = some sig → argsL.length = sig.parameters.length)
    (hstack : g.stack = argsL.reverse ++ rest) (hW : 2 * g.monitorRoom + (rest.map fun v => v.category).sum ≤ W9) (hdg : decode c.code g.pc = .ok (.invokestatic index, 3))
    (hpre : ∀ vm₁, s.WarmedH vm₁ → Pre ⟨T.setVm vm₁, locs, cells, slots⟩ argsL.toArray) :
    ∃ (v : Option Value) (vm₁ : Vm) (B : Pt), s.WarmedH vm₁ ∧ Stand p l e R s m args below meth c B.U B.locs B.cells B.slots ∧ Post ⟨T.setVm vm₁, locs, cells, slots⟩ argsL.toArray v B ∧
      ∀ target, Steps p.tables e below (B.U.setTop { g with pc := g.pc + 3, stack := v.toList ++ rest }) target → Steps p.tables e below (T.setTop g) target := by
  obtain ⟨mk, methM, cM, hnamed, hmethM, -, -, -, -, -, -, hsigM⟩ := Cond.codeWith_spec hcode
  have hstatic : methM.isStatic = true := Cond.static_spec hnamed hmethM hstat
  obtain ⟨kP, hkP, -⟩ := className_of_methodNamed hnamed
  have hinitP : kP.init = .initialized := Cond.initialized_spec (findClass_of_methodNamed hnamed) hkP hinit
  obtain ⟨vm₁, X₁, hstep₁⟩ := X.invokestatic hexec hown hlink hnamed hmethM hstatic hkP hinitP hy (g := g) hg (argsL := argsL) (rest := rest) (hlen _ hsigM) hstack hdg
  obtain ⟨v, B, X', hpost, hsteps⟩ := hK m meth c ⟨T.setVm vm₁, locs, cells, slots⟩ { g with stack := rest } (.invokestatic index) mk argsL.toArray X₁ hg hsize hdg hW (X₁.named hnamed) (hpre vm₁ X₁.warmed)
  exact ⟨v, vm₁, B, X₁.warmed, X', hpost, fun target h => hstep₁ _ fun acts => by rw [doInvoke_state]; exact hsteps.trans h⟩
theorem vx_runSW {y : MethodName} {bytes cc : ByteArray} {maxL nL mc ms n index : Nat} {ret : Option FieldType} {hh : List (Nat × Nat × Nat × Nat)} {ws : List Cond} {rm : Room} {Pc : Array Value → State → Prop} {Qc : Array Value → State → Outcome → State → Prop} {free : Addr → Prop} {Ts : List Cond} {own : String} {As rest : List Value} {g : JFrame}
    (S : CallFix p m c cc nL s args Ts own) (hM : Met l y ws rm Pc Qc mc ms free) (cw : vx_CSW R s args own index y bytes maxL ret hh ws rm mc ms n) (hp : PreS s H Pc As)
    (hg : g.method = m) (hn : As.length = n) (hsize : g.locals.size = nL) (hstack : g.stack = As.reverse ++ rest) (hW : 2 * g.monitorRoom + (rest.map fun v => v.category).sum ≤ 8) (hdg : decode cc g.pc = .ok (.invokestatic index, 3)) (hf : cells + mc ≤ R.cells ∧ slots + ms ≤ R.slots) :
    va_Run p l e R s m args below meth c H locs cells slots mc ms g rest (Qc As.toArray) (free) := by
  obtain ⟨⟨hrc, hrs, hfr, hlo, hws, hcw⟩, hcode, hini, hy, hlen, hl, hstt⟩ := cw
  have hK : Back l R p e below s args y 3 8 (PreOf R mc ms Pc) (PostOf Qc mc ms free) := va_backW (hh := hh) (bytes := bytes) (maxL := maxL) (ret := ret) hM hp.1 hrc hrs hfr hlo hws hcw (fun a' U hW => word_at hW (Or.inl (by first | rfl | simp [Cond.onTables, Cond.keeps, Cond.steady])) hini)
  obtain ⟨hx, hb, hml, ho, -⟩ := S
  intro T hT X
  obtain ⟨v, vm₁, ⟨U', l2, c2, s2⟩, hW₁, X', ⟨g', mk, t, L, e1, e2, hq, h1, hL, h2, h3⟩, st⟩ := vx_callSW X hx (hh := hh) (bytes := bytes) (maxL := maxL) (ret := ret) ho hl hstt hini hcode hy hK hg (hsize.trans hml.symm) (argsL := As) (rest := rest) (fun sig h => hn.trans (hlen sig h)) hstack hW (by rw [hb]; exact hdg)
    (fun vm₁ hW₁ => ⟨hf.1, hf.2, hp.2 (T.setVm vm₁) hT hW₁⟩)
  dsimp only [Pt.U, Pt.locs, Pt.cells, Pt.slots] at X' e1 e2 h1 h2 h3 st
  subst h1; subst h2; subst h3
  exact ⟨v, (T.setVm vm₁).calling g' mk As.toArray, t, U', L, hT, X', hL, e1, e2, hq, st⟩
/-- not caught here, past rows that name other classes: it goes on to the caller -/
theorem vx_outP {p : Program} {l : Launch} {e : Env} {R : Room} {s : State} {m : MethodId} {args : Array Value} {below : List Frame} {meth : Method} {c : Code} {H : Heap} {locs : List Loc} {cells slots : Nat} {free : Addr → Prop} {ls : Array Slot} {rest : List Value} {Qc : Array Value → State → Outcome → State → Prop} {XC : String → State → State → Prop}
    {pc : Nat} {own E : String} {ce : Cell} {q : Addr} {mc ms : Nat} (hown : s.vm.findClass own = some m.cls) (hlocks : meth.locks = false)
    (hpass : ∀ z ∈ c.exceptionTable.toList, covers z pc = false ∨ (z.catchType ≠ 0 ∧ ∃ nm : String, (Cond.classLink own z.catchType nm).before args s = true ∧ va_Nc E nm s)) (hcell : H[q]? = some ce) (hv : ce.vm = .none) (hcl : s.vm.findClass E = some ce.cls)
    (hx : ∀ t : State, t.heap = H → s.vm.Alike t.vm → XC E s t) (hf : ∀ z ∈ locs, free z.base) (hc : cells ≤ mc) (hs : slots ≤ ms) :
    vx_W p l e R s m args below meth c H locs cells slots (vx_MQ below Qc XC args s mc ms free) (F0 m pc ls rest) q := by
  intro T hT X
  have hpl : e.platform.magicAccessors = ({} : Platform).magicAccessors := by rw [X.admits.platform]
  obtain ⟨vm', hW', X', st⟩ := X.outThrough hlocks q (g := F0 m pc ls rest) rfl rfl rfl (cell := ce) (by rw [hT]; exact hcell) (by rw [hv]; rfl)
    (by obtain ⟨k9, h9, -⟩ := Vm.findClass_spec hcl; exact ⟨k9, h9⟩) (fun z hz => by
      rcases hpass z hz with h | ⟨hz0, nm, hl1, hn1⟩
      · exact Or.inl h
      · obtain ⟨c6, hc6, hcl6⟩ := Cond.classLink_spec hown hl1 e.platform hpl
        obtain ⟨a8, b8, h1, h2, h3⟩ := hn1
        cases Option.some.inj (h1.symm.trans hcl)
        cases Option.some.inj (h2.symm.trans hc6)
        exact Or.inr ⟨hz0, _, hcl6, h3⟩)
  obtain ⟨g₀, hfr⟩ := X'.frames_eq
  have hcell9 : ((T.setVm vm').setFrames (.throwing q :: below)).heap[q]? = some ce := by
    show T.heap[q]? = some ce
    rw [hT]; exact hcell
  have hend : Ended ((T.setVm vm').setFrames (.throwing q :: below)) below (.threw q) := State.frames_setFrames _ (State.cur_lt_of_frames hfr)
  refine ⟨(T.setVm vm').setFrames (.throwing q :: below), ?_, .threw q, X'.here.running, hend, Or.inr ⟨q, rfl, E, ce, locs, hx _ hT (X'.ends _).1.alike, hcell9, hv, hcl, (X'.ends _).1, (X'.ends _).2.mono hc hs, hf⟩⟩
  rw [X.pushThrowing_eq]
  exact st
/-- a thing of a world lies in the heap -/
theorem vx_lt {D : va_G} {cl : List vw_C} {ws : va_W} {H1 : Heap} (h : va_P D cl ws H1) {k : Nat} {q : Nat × va_E} (hk : ws[k]? = some q) : q.1 < H1.size := (h k q hk).lt
end VXS
/-! ===== END ===== -/
/-! ===== BEGIN methods with a table of their own: called by a name, returning or throwing ===== -/
section VXH
/-! vx_backW, vx_callVX, vx_callSX, vx_callVW, vx_runVW, vx_runVX, vx_runSX, vx_ofWH follow the same proofs as their sisters above (Free/Laws.lean, Shelf42/LK1.lean); vx_outP calls Shelf42/NT130.lean (outThrough). -/
section
variable {l : Launch} {R : Room} {p : Program} {e : Env} {below : List Frame} {s : State} {sargs : Array Value} {y : MethodName} {len W9 : Nat}
theorem vx_backW {ws : List Cond} {rm : Room} {Pc : Array Value → State → Prop} {Qc : Array Value → State → Outcome → State → Prop} {XC : String → State → State → Prop} {mc ms : Nat} {free : Addr → Prop} {bytes : ByteArray} {maxL : Nat} {ret : Option FieldType} {hh : List (Nat × Nat × Nat × Nat)}
    (hM : vx_Met l y ws rm Pc Qc XC mc ms free) (hblind : FrameBlind Pc) (hrc : rm.cells = mc) (hrs : rm.slots = ms)
    (hframes : rm.frames + 1 ≤ R.frames) (hlocals : W9 + (maxL + 11) + rm.locals ≤ R.locals)
    (hws : ∀ w ∈ ws, ∀ a' U, s.WarmedH U.vm → w.before a' U = true) (hcode : Cond.codeWith y bytes maxL ret hh ∈ ws) (hinit : ∀ a' U, s.WarmedH U.vm → (Cond.initialized y.cls).before a' U = true) :
    vx_Back l R p e below s sargs y len W9 (PreOf R mc ms Pc) (PostOf Qc mc ms free) (vx_Post XC mc ms free) := by
  intro m meth c A g ig mk a X hg hsize hdg hW hn hp
  have h1 : (headSpec ws rm).pre.before a A.U = true := atoms_intro fun w hw => hws w hw _ _ X.warmed
  have h2 : (Cond.codeWith y bytes maxL ret hh).before a A.U = true := hws _ hcode _ _ X.warmed
  have h3 : (Cond.initialized y.cls).before a A.U = true := hinit _ _ X.warmed
  have h4 : A.cells + (headSpec ws rm).room.cells ≤ R.cells := by rw [show (headSpec ws rm).room.cells = mc from hrc]; exact hp.1
  have h5 : A.slots + (headSpec ws rm).room.slots ≤ R.slots := by rw [show (headSpec ws rm).room.slots = ms from hrs]; exact hp.2.1
  have hPc : Pc a (A.U.calling g mk a) := hblind _ _ _ _ hp.2.2
  obtain ⟨U, Ls, c0, s0⟩ := A
  dsimp only [Pt.U, Pt.locs, Pt.cells, Pt.slots] at h1 h2 h3 h4 h5 X hn hPc ⊢
  obtain ⟨m9, methY, cY, hn9, hmY, hcY, -, hlY, -⟩ := Cond.codeWith_spec h2
  cases Option.some.inj (hn9.symm.trans hn)
  obtain ⟨kY, hkY, -⟩ := className_of_methodNamed hn
  have hinitY : kY.init = .initialized := Cond.initialized_spec (findClass_of_methodNamed hn) hkY h3
  have h : At U g.method c below := by rw [hg]; exact X.here
  have hlocals9 : W9 + (maxL + 11) + (headSpec ws rm).room.locals ≤ R.locals := hlocals
  have happ : (headSpec ws rm).appliesLoose y e.platform (U.calling g mk a) = true :=
    Spec.appliesLoose_calling (g := g) h hdg hn hkY hinitY
      (X.room_calling (g := g) (R' := (headSpec ws rm).room) hsize hmY hcY hframes (by rw [hlY]; omega) h4 h5) h1
  obtain ⟨mid, hmid⟩ := h.above
  have hfr : (U.setTop g).frames = (.java g :: mid) ++ below := by rw [State.frames_setTop' g h.top, hmid]; rfl
  obtain ⟨o, s₂, hsteps, -, hend, hq⟩ := Steps.callFree hM p X.admits X.cas X.clock (acts := []) hfr happ hPc trivial
  have hq' : vx_Q Qc XC mc ms free a (U.calling g mk a) o s₂ := hq
  rw [State.frames_setTop' g h.top] at hend
  obtain ⟨g₀, hg0⟩ := Option.isSome_iff_exists.mp h.top
  obtain ⟨r, hr⟩ := State.topJava?_eq_some.mp hg0
  have hr' : (({ U with heap := s₂.heap, slotsUsed := s₂.slotsUsed } : State).setVm s₂.vm).frames = .java g₀ :: r := hr
  rcases hq' with ⟨hqc, L, hfe, hL⟩ | ⟨q, rfl, E, ce, L, hx, hce, hcv, hcl, hW₂, hsm, hL⟩
  · obtain ⟨⟨v, rfl⟩, hW₂, e2, q2, q3, q4, q5, q6⟩ := id hfe
    have e3 : s₂ = ({ (U.calling g mk a).setFrames s₂.frames with heap := s₂.heap, slotsUsed := s₂.slotsUsed } : State).setVm s₂.vm := by
      have : s₂ = ({ s₂ with vm := (U.calling g mk a).vm } : State).setVm s₂.vm := rfl
      rw [e2] at this
      exact this
    obtain ⟨c₂, i₂, len₂, hc₂, hd₂, hf₂⟩ := hend
    have hW' : U.WarmedH s₂.vm := hW₂
    have hcc : c₂ = c := by
      have h1 : s₂.code? g.method = U.code? g.method := by
        rw [State.code?_eq, State.code?_eq, hW'.alike.method?]
      exact Option.some.inj (hc₂.symm.trans (h1.trans h.code))
    subst hcc
    have hlen : len₂ = len := by rw [hdg] at hd₂; cases hd₂; rfl
    subst hlen
    have hs₂ : s₂ = (({ U with heap := s₂.heap, slotsUsed := s₂.slotsUsed } : State).setVm s₂.vm).setTop { g with pc := g.pc + len₂, stack := v.toList ++ g.stack } := by
      refine e3.trans ?_
      rw [hf₂, State.calling_eq h.top, State.setFrames_setFrames, State.setTop_of_frames _ hr', hr]
      rfl
    have hsame : U.sameButNew ({ U with heap := s₂.heap, slotsUsed := s₂.slotsUsed } : State) L mc ms := by
      refine ⟨?_, q2, q3, q4, q5, q6⟩
      obtain ⟨t, ht, -⟩ := State.frames_cons hr
      show ({ U with heap := s₂.heap, slotsUsed := s₂.slotsUsed } : State) = { U.setFrames U.frames with heap := s₂.heap, slotsUsed := s₂.slotsUsed }
      rw [State.setFrames_self ht]
    subst hg
    refine Or.inl ⟨v, ⟨(({ U with heap := s₂.heap, slotsUsed := s₂.slotsUsed } : State).setVm s₂.vm), Ls ++ L, c0 + mc, s0 + ms⟩,
      ⟨X.admits, X.cas, X.clock, X.frames, X.room, X.hears, X.method, X.code, (X.here.setHeapUsed s₂.heap s₂.slotsUsed).setVm hW'.alike, X.tail, State.WarmedH.trans X.warmed hW', X.limits, X.bytes, X.same.trans (hsame.setVm s.vm)⟩,
      ⟨g, mk, s₂, L, rfl, rfl, hqc, rfl, hL, rfl, rfl⟩, ?_⟩
    show Steps p.tables e below _ ((({ U with heap := s₂.heap, slotsUsed := s₂.slotsUsed } : State).setVm s₂.vm).setTop { g with pc := g.pc + len₂, stack := v.toList ++ g.stack })
    rw [← hs₂]
    exact hsteps
  · obtain ⟨e2, q2, q3, q4, q5, q6⟩ := id hsm
    have e3 : s₂ = ({ (U.calling g mk a).setFrames s₂.frames with heap := s₂.heap, slotsUsed := s₂.slotsUsed } : State).setVm s₂.vm := by
      have : s₂ = ({ s₂ with vm := (U.calling g mk a).vm } : State).setVm s₂.vm := rfl
      rw [e2] at this
      exact this
    have hf₂ : s₂.frames = .throwing q :: .java g :: U.frames.tail := hend
    have hW' : U.WarmedH s₂.vm := hW₂
    have hs₂ : s₂ = ((({ U with heap := s₂.heap, slotsUsed := s₂.slotsUsed } : State).setVm s₂.vm).setTop g).pushFrame (.throwing q) := by
      refine e3.trans ?_
      rw [hf₂, State.calling_eq h.top, State.setFrames_setFrames, State.pushFrame, State.frames_setTop _ hr', State.setTop_of_frames _ hr', State.setFrames_setFrames, hr]
      rfl
    have hsame : U.sameButNew ({ U with heap := s₂.heap, slotsUsed := s₂.slotsUsed } : State) L mc ms := by
      refine ⟨?_, q2, q3, q4, q5, q6⟩
      obtain ⟨t, ht, -⟩ := State.frames_cons hr
      show ({ U with heap := s₂.heap, slotsUsed := s₂.slotsUsed } : State) = { U.setFrames U.frames with heap := s₂.heap, slotsUsed := s₂.slotsUsed }
      rw [State.setFrames_self ht]
    subst hg
    refine Or.inr ⟨q, ⟨(({ U with heap := s₂.heap, slotsUsed := s₂.slotsUsed } : State).setVm s₂.vm), Ls ++ L, c0 + mc, s0 + ms⟩,
      ⟨X.admits, X.cas, X.clock, X.frames, X.room, X.hears, X.method, X.code, (X.here.setHeapUsed s₂.heap s₂.slotsUsed).setVm hW'.alike, X.tail, State.WarmedH.trans X.warmed hW', X.limits, X.bytes, X.same.trans (hsame.setVm s.vm)⟩,
      ⟨g, mk, s₂, L, E, ce, rfl, rfl, hx, hce, hcv, hcl, rfl, hL, rfl, rfl⟩, ?_⟩
    show Steps p.tables e below _ (((({ U with heap := s₂.heap, slotsUsed := s₂.slotsUsed } : State).setVm s₂.vm).setTop g).pushFrame (.throwing q))
    rw [← hs₂]
    exact hsteps
end
variable {p : Program} {l : Launch} {e : Env} {R : Room} {s : State} {m : MethodId} {args : Array Value} {below : List Frame} {meth : Method} {c : Code} {T : State} {H : Heap} {locs : List Loc} {cells slots : Nat}
theorem vx_callVX (X : Stand p l e R s m args below meth c T locs cells slots) (hexec : p.tables.exec = Jvm.exec) {own C : String} {index : Nat} {y : MethodName} {bytes : ByteArray} {maxL : Nat} {ret : Option FieldType} {hh : List (Nat × Nat × Nat × Nat)}
    (hown : s.vm.findClass own = some m.cls) (hlink : (Cond.methodLink own index y).before args s = true) (hinst : (Cond.instanceMethod y).before args s = true) (hsel : (Cond.selects C y y).before args s = true)
    (hcode : (Cond.codeWith y bytes maxL ret hh).before args s = true) (hy : y.cls ≠ "java/lang/invoke/MethodHandle" ∧ y.cls ≠ "java/lang/invoke/VarHandle")
    {W9 : Nat} {Pre : Pt → Array Value → Prop} {Post : Pt → Array Value → Option Value → Pt → Prop} {PostX : Pt → Array Value → Addr → Pt → Prop} (hK : vx_Back l R p e below s args y 3 W9 Pre Post PostX)
    {b : Addr} {cellB : Cell} (hcell : T.heap[b]? = some cellB) (hobj : cellB.vm.isStatics = false) (hcls : s.vm.findClass C = some cellB.cls)
    {g : JFrame} (hg : g.method = m) (hsize : g.locals.size = c.maxLocals) {argsL rest : List Value} (hlen : ∀ sig, parseMethodDescriptor y.desc = some sig → argsL.length = sig.parameters.length)
    (hstack : g.stack = argsL.reverse ++ .ref b :: rest) (hW : 2 * g.monitorRoom + (rest.map fun v => v.category).sum ≤ W9) (hdg : decode c.code g.pc = .ok (.invokevirtual index, 3))
    (hpre : ∀ vm₁, s.WarmedH vm₁ → Pre ⟨T.setVm vm₁, locs, cells, slots⟩ (Value.ref b :: argsL).toArray) :
    (∃ (v : Option Value) (vm₁ : Vm) (B : Pt), s.WarmedH vm₁ ∧ Stand p l e R s m args below meth c B.U B.locs B.cells B.slots ∧ Post ⟨T.setVm vm₁, locs, cells, slots⟩ (Value.ref b :: argsL).toArray v B ∧
      ∀ target, Steps p.tables e below (B.U.setTop { g with pc := g.pc + 3, stack := v.toList ++ rest }) target → Steps p.tables e below (T.setTop g) target) ∨
    (∃ (q : Addr) (vm₁ : Vm) (B : Pt), s.WarmedH vm₁ ∧ Stand p l e R s m args below meth c B.U B.locs B.cells B.slots ∧ PostX ⟨T.setVm vm₁, locs, cells, slots⟩ (Value.ref b :: argsL).toArray q B ∧
      Steps p.tables e below (T.setTop g) ((B.U.setTop { g with stack := rest }).pushFrame (.throwing q))) := by
  obtain ⟨mk, methM, hnamed, hmethM, hstM, habM⟩ := Cond.instanceMethod_spec hinst
  obtain ⟨m8, methM', cM, hn8, hmethM', -, -, -, -, -, -, hsigM⟩ := Cond.codeWith_spec hcode
  cases Option.some.inj (hn8.symm.trans hnamed)
  cases hmethM.symm.trans hmethM'
  obtain ⟨c2, r2, m2, q1, q2, q3, q4, kP, hkP, hkPi⟩ := Cond.selects_spec hsel
  cases hcls.symm.trans q1
  cases (State.methodFound?_of_named hnamed hy).symm.trans q2
  cases hnamed.symm.trans q3
  have hselP : selectMethod e.platform s.vm cellB.cls mk = .method mk := by rw [Launch.admits_selectMethod X.admits]; exact q4
  obtain ⟨vm₁, X₁, hstep₁⟩ := X.invokevirtual hexec hown hlink hnamed hmethM hstM hkP hkPi hy (a := b) (cell := cellB) hcell
    (fun z h => by rw [h] at hobj; cases hobj) hselP hmethM habM hkP hkPi (g := g) hg (argsL := argsL) (rest := rest) (hlen _ hsigM) hstack hdg
  rcases hK m meth c ⟨T.setVm vm₁, locs, cells, slots⟩ { g with stack := rest } (.invokevirtual index) mk (Value.ref b :: argsL).toArray X₁ hg hsize hdg hW (X₁.named hnamed) (hpre vm₁ X₁.warmed) with ⟨v, B, X', hpost, hsteps⟩ | ⟨q, B, X', hpost, hsteps⟩
  · exact Or.inl ⟨v, vm₁, B, X₁.warmed, X', hpost, fun target h => hstep₁ _ fun acts => by rw [doInvoke_state]; exact hsteps.trans h⟩
  · exact Or.inr ⟨q, vm₁, B, X₁.warmed, X', hpost, hstep₁ _ fun acts => by rw [doInvoke_state]; exact hsteps⟩
theorem vx_callSX (X : Stand p l e R s m args below meth c T locs cells slots) (hexec : p.tables.exec = Jvm.exec) {own : String} {index : Nat} {y : MethodName} {bytes : ByteArray} {maxL : Nat} {ret : Option FieldType} {hh : List (Nat × Nat × Nat × Nat)}
    (hown : s.vm.findClass own = some m.cls) (hlink : (Cond.methodLink own index y).before args s = true) (hstat : (Cond.static y).before args s = true) (hinit : (Cond.initialized y.cls).before args s = true)
    (hcode : (Cond.codeWith y bytes maxL ret hh).before args s = true) (hy : y.cls ≠ "java/lang/invoke/MethodHandle" ∧ y.cls ≠ "java/lang/invoke/VarHandle")
    {W9 : Nat} {Pre : Pt → Array Value → Prop} {Post : Pt → Array Value → Option Value → Pt → Prop} {PostX : Pt → Array Value → Addr → Pt → Prop} (hK : vx_Back l R p e below s args y 3 W9 Pre Post PostX)
    {g : JFrame} (hg : g.method = m) (hsize : g.locals.size = c.maxLocals) {argsL rest : List Value} (hlen : ∀ sig, parseMethodDescriptor y.desc = some sig → argsL.length = sig.parameters.length)
    (hstack : g.stack = argsL.reverse ++ rest) (hW : 2 * g.monitorRoom + (rest.map fun v => v.category).sum ≤ W9) (hdg : decode c.code g.pc = .ok (.invokestatic index, 3))
    (hpre : ∀ vm₁, s.WarmedH vm₁ → Pre ⟨T.setVm vm₁, locs, cells, slots⟩ argsL.toArray) :
    (∃ (v : Option Value) (vm₁ : Vm) (B : Pt), s.WarmedH vm₁ ∧ Stand p l e R s m args below meth c B.U B.locs B.cells B.slots ∧ Post ⟨T.setVm vm₁, locs, cells, slots⟩ argsL.toArray v B ∧
      ∀ target, Steps p.tables e below (B.U.setTop { g with pc := g.pc + 3, stack := v.toList ++ rest }) target → Steps p.tables e below (T.setTop g) target) ∨
    (∃ (q : Addr) (vm₁ : Vm) (B : Pt), s.WarmedH vm₁ ∧ Stand p l e R s m args below meth c B.U B.locs B.cells B.slots ∧ PostX ⟨T.setVm vm₁, locs, cells, slots⟩ argsL.toArray q B ∧
      Steps p.tables e below (T.setTop g) ((B.U.setTop { g with stack := rest }).pushFrame (.throwing q))) := by
  obtain ⟨mk, methM, cM, hnamed, hmethM, -, -, -, -, -, -, hsigM⟩ := Cond.codeWith_spec hcode
  have hstatic : methM.isStatic = true := Cond.static_spec hnamed hmethM hstat
  obtain ⟨kP, hkP, -⟩ := className_of_methodNamed hnamed
  have hinitP : kP.init = .initialized := Cond.initialized_spec (findClass_of_methodNamed hnamed) hkP hinit
  obtain ⟨vm₁, X₁, hstep₁⟩ := X.invokestatic hexec hown hlink hnamed hmethM hstatic hkP hinitP hy (g := g) hg (argsL := argsL) (rest := rest) (hlen _ hsigM) hstack hdg
  rcases hK m meth c ⟨T.setVm vm₁, locs, cells, slots⟩ { g with stack := rest } (.invokestatic index) mk argsL.toArray X₁ hg hsize hdg hW (X₁.named hnamed) (hpre vm₁ X₁.warmed) with ⟨v, B, X', hpost, hsteps⟩ | ⟨q, B, X', hpost, hsteps⟩
  · exact Or.inl ⟨v, vm₁, B, X₁.warmed, X', hpost, fun target h => hstep₁ _ fun acts => by rw [doInvoke_state]; exact hsteps.trans h⟩
  · exact Or.inr ⟨q, vm₁, B, X₁.warmed, X', hpost, hstep₁ _ fun acts => by rw [doInvoke_state]; exact hsteps⟩
theorem vx_callVW (X : Stand p l e R s m args below meth c T locs cells slots) (hexec : p.tables.exec = Jvm.exec) {own C : String} {index : Nat} {y : MethodName} {bytes : ByteArray} {maxL : Nat} {ret : Option FieldType} {hh : List (Nat × Nat × Nat × Nat)}
    (hown : s.vm.findClass own = some m.cls) (hlink : (Cond.methodLink own index y).before args s = true) (hinst : (Cond.instanceMethod y).before args s = true) (hsel : (Cond.selects C y y).before args s = true)
    (hcode : (Cond.codeWith y bytes maxL ret hh).before args s = true) (hy : y.cls ≠ "java/lang/invoke/MethodHandle" ∧ y.cls ≠ "java/lang/invoke/VarHandle")
    {W9 : Nat} {Pre : Pt → Array Value → Prop} {Post : Pt → Array Value → Option Value → Pt → Prop} (hK : Back l R p e below s args y 3 W9 Pre Post)
    {b : Addr} {cellB : Cell} (hcell : T.heap[b]? = some cellB) (hobj : cellB.vm.isStatics = false) (hcls : s.vm.findClass C = some cellB.cls)
    {g : JFrame} (hg : g.method = m) (hsize : g.locals.size = c.maxLocals) {argsL rest : List Value} (hlen : ∀ sig, parseMethodDescriptor y.desc = some sig → argsL.length = sig.parameters.length)
    (hstack : g.stack = argsL.reverse ++ .ref b :: rest) (hW : 2 * g.monitorRoom + (rest.map fun v => v.category).sum ≤ W9) (hdg : decode c.code g.pc = .ok (.invokevirtual index, 3))
    (hpre : ∀ vm₁, s.WarmedH vm₁ → Pre ⟨T.setVm vm₁, locs, cells, slots⟩ (Value.ref b :: argsL).toArray) :
    ∃ (v : Option Value) (vm₁ : Vm) (B : Pt), s.WarmedH vm₁ ∧ Stand p l e R s m args below meth c B.U B.locs B.cells B.slots ∧ Post ⟨T.setVm vm₁, locs, cells, slots⟩ (Value.ref b :: argsL).toArray v B ∧
      ∀ target, Steps p.tables e below (B.U.setTop { g with pc := g.pc + 3, stack := v.toList ++ rest }) target → Steps p.tables e below (T.setTop g) target := by
  obtain ⟨mk, methM, hnamed, hmethM, hstM, habM⟩ := Cond.instanceMethod_spec hinst
  obtain ⟨m8, methM', cM, hn8, hmethM', -, -, -, -, -, -, hsigM⟩ := Cond.codeWith_spec hcode
  cases Option.some.inj (hn8.symm.trans hnamed)
  cases hmethM.symm.trans hmethM'
  obtain ⟨c2, r2, m2, q1, q2, q3, q4, kP, hkP, hkPi⟩ := Cond.selects_spec hsel
  cases hcls.symm.trans q1
  cases (State.methodFound?_of_named hnamed hy).symm.trans q2
  cases hnamed.symm.trans q3
  have hselP : selectMethod e.platform s.vm cellB.cls mk = .method mk := by rw [Launch.admits_selectMethod X.admits]; exact q4
  obtain ⟨vm₁, X₁, hstep₁⟩ := X.invokevirtual hexec hown hlink hnamed hmethM hstM hkP hkPi hy (a := b) (cell := cellB) hcell
    (fun z h => by rw [h] at hobj; cases hobj) hselP hmethM habM hkP hkPi (g := g) hg (argsL := argsL) (rest := rest) (hlen _ hsigM) hstack hdg
  obtain ⟨v, B, X', hpost, hsteps⟩ := hK m meth c ⟨T.setVm vm₁, locs, cells, slots⟩ { g with stack := rest } (.invokevirtual index) mk (Value.ref b :: argsL).toArray X₁ hg hsize hdg hW (X₁.named hnamed) (hpre vm₁ X₁.warmed)
  exact ⟨v, vm₁, B, X₁.warmed, X', hpost, fun target h => hstep₁ _ fun acts => by rw [doInvoke_state]; exact hsteps.trans h⟩
abbrev vx_CVW (R : Room) (s : State) (args : Array Value) (own C : String) (index : Nat) (y : MethodName) (bytes : ByteArray) (maxL : Nat) (ret : Option FieldType) (hh : List (Nat × Nat × Nat × Nat)) (ws : List Cond) (rm : Room) (mc ms n : Nat) : Prop :=
  (rm.cells = mc ∧ rm.slots = ms ∧ rm.frames + 1 ≤ R.frames ∧ 8 + (maxL + 11) + rm.locals ≤ R.locals ∧ (∀ w ∈ ws, ∀ (a' : Array Value) (U : State), s.WarmedH U.vm → w.before a' U = true) ∧ Cond.codeWith y bytes maxL ret hh ∈ ws) ∧
  (Cond.codeWith y bytes maxL ret hh).before args s = true ∧ (Cond.initialized y.cls).before args s = true ∧ (y.cls ≠ "java/lang/invoke/MethodHandle" ∧ y.cls ≠ "java/lang/invoke/VarHandle") ∧
  (∀ sig, parseMethodDescriptor y.desc = some sig → n = sig.parameters.length) ∧ (Cond.methodLink own index y).before args s = true ∧ (Cond.instanceMethod y).before args s = true ∧ (Cond.selects C y y).before args s = true
theorem vx_cwVW {own C : String} {index maxL mc ms : Nat} {y : MethodName} {bytes : ByteArray} {ret : Option FieldType} {hh : List (Nat × Nat × Nat × Nat)} {Ts ws ws' : List Cond} {rm : Room} (n : Nat) (ht : ∀ w ∈ Ts, w.before args s = true) (hT : GoodIn Ts (wsV own index C y ws)) (hw : ws = Cond.codeWith y bytes maxL ret hh :: ws') (hrc : rm.cells = mc) (hrs : rm.slots = ms)
    (hd : y.cls = C ∧ y.cls ≠ "java/lang/invoke/MethodHandle" ∧ y.cls ≠ "java/lang/invoke/VarHandle" ∧ (parseMethodDescriptor y.desc).map (fun d => d.parameters.length) = some n) (hR : rm.frames + 1 ≤ R.frames ∧ 8 + (maxL + 11) + rm.locals ≤ R.locals) :
    vx_CVW R s args own C index y bytes maxL ret hh ws rm mc ms n := by
  obtain ⟨hC, hd⟩ := hd
  subst hC
  have ok : ∀ w ∈ wsV own index y.cls y ws, w.before args s = true := fun w h => ht w (hT w h).1
  have hG : GoodIn Ts ws := fun w h => hT w (by unfold wsV; exact List.mem_append_right _ h)
  have hc : Cond.codeWith y bytes maxL ret hh ∈ ws := by rw [hw]; exact List.mem_cons_self
  refine ⟨⟨hrc, hrs, hR.1, hR.2, pay_in ht hG, hc⟩, ht _ (hG _ hc).1, ok _ (by simp [wsV]), ⟨hd.1, hd.2.1⟩, fun sig h => ?_, ok _ (by simp [wsV]), ok _ (by simp [wsV]), ok _ (by simp [wsV])⟩
  have h2 := hd.2.2
  rw [h] at h2
  exact (Option.some.inj h2).symm
theorem vx_runVW {y : MethodName} {bytes cc : ByteArray} {maxL nL mc ms n index : Nat} {ret : Option FieldType} {hh : List (Nat × Nat × Nat × Nat)} {ws : List Cond} {rm : Room} {Pc : Array Value → State → Prop} {Qc : Array Value → State → Outcome → State → Prop} {free : Addr → Prop} {Ts : List Cond} {own C : String} {b : Addr} {As rest : List Value} {g : JFrame}
    (S : CallFix p m c cc nL s args Ts own) (hM : Met l y ws rm Pc Qc mc ms free) (cw : vx_CVW R s args own C index y bytes maxL ret hh ws rm mc ms n) (hp : PreV s H C b Pc As)
    (hg : g.method = m) (hn : As.length = n) (hsize : g.locals.size = nL) (hstack : g.stack = As.reverse ++ .ref b :: rest) (hW : 2 * g.monitorRoom + (rest.map fun v => v.category).sum ≤ 8) (hdg : decode cc g.pc = .ok (.invokevirtual index, 3)) (hf : cells + mc ≤ R.cells ∧ slots + ms ≤ R.slots) :
    va_Run p l e R s m args below meth c H locs cells slots mc ms g rest (Qc (Value.ref b :: As).toArray) free := by
  obtain ⟨⟨hrc, hrs, hfr, hlo, hws, hcw⟩, hcode, hini, hy, hlen, hl, hin, hse⟩ := cw
  have hK : Back l R p e below s args y 3 8 (PreOf R mc ms Pc) (PostOf Qc mc ms free) := va_backW (hh := hh) (bytes := bytes) (maxL := maxL) (ret := ret) hM hp.1 hrc hrs hfr hlo hws hcw (fun a' U hW => word_at hW (Or.inl (by first | rfl | simp [Cond.onTables, Cond.keeps, Cond.steady])) hini)
  obtain ⟨hx, hb, hml, ho, -⟩ := S
  obtain ⟨-, ⟨cellB, hcB, hoB, hclB⟩, hPc⟩ := hp
  intro T hT X
  obtain ⟨v, vm₁, ⟨U', l2, c2, s2⟩, hW₁, X', ⟨g', mk, t, L, e1, e2, hq, h1, hL, h2, h3⟩, st⟩ := vx_callVW X hx (C := C) (hh := hh) (bytes := bytes) (maxL := maxL) (ret := ret) ho hl hin hse hcode hy hK (by rw [hT]; exact hcB) hoB hclB hg (hsize.trans hml.symm) (argsL := As) (rest := rest) (fun sig h => hn.trans (hlen sig h)) hstack hW (by rw [hb]; exact hdg)
    (fun vm₁ hW₁ => ⟨hf.1, hf.2, hPc (T.setVm vm₁) hT hW₁⟩)
  dsimp only [Pt.U, Pt.locs, Pt.cells, Pt.slots] at X' e1 e2 h1 h2 h3 st
  subst h1; subst h2; subst h3
  exact ⟨v, (T.setVm vm₁).calling g' mk (Value.ref b :: As).toArray, t, U', L, hT, X', hL, e1, e2, hq, st⟩
section
variable {y : MethodName} {bytes cc : ByteArray} {maxL nL mc ms n index : Nat} {ret : Option FieldType} {ws : List Cond} {rm : Room} {Pc : Array Value → State → Prop} {Qc : Array Value → State → Outcome → State → Prop} {XC : String → State → State → Prop} {free : Addr → Prop} {Ts : List Cond} {own C : String} {b : Addr} {As rest : List Value} {g : JFrame}
theorem vx_runVX {hh : List (Nat × Nat × Nat × Nat)} (S : CallFix p m c cc nL s args Ts own) (hM : vx_Met l y ws rm Pc Qc XC mc ms free) (cw : vx_CVW R s args own C index y bytes maxL ret hh ws rm mc ms n) (hp : PreV s H C b Pc As)
    (hg : g.method = m) (hn : As.length = n) (hsize : g.locals.size = nL) (hstack : g.stack = As.reverse ++ .ref b :: rest) (hW : 2 * g.monitorRoom + (rest.map fun v => v.category).sum ≤ 8) (hdg : decode cc g.pc = .ok (.invokevirtual index, 3)) (hf : cells + mc ≤ R.cells ∧ slots + ms ≤ R.slots) :
    vx_Run p l e R s m args below meth c H locs cells slots mc ms g rest (Qc (Value.ref b :: As).toArray) XC free := by
  obtain ⟨⟨hrc, hrs, hfr, hlo, hws, hcw⟩, hcode, hini, hy, hlen, hl, hin, hse⟩ := cw
  have hK : vx_Back l R p e below s args y 3 8 (PreOf R mc ms Pc) (PostOf Qc mc ms free) (vx_Post XC mc ms free) := vx_backW (hh := hh) (bytes := bytes) (maxL := maxL) (ret := ret) hM hp.1 hrc hrs hfr hlo hws hcw (fun a' U hW => word_at hW (Or.inl (by first | rfl | simp [Cond.onTables, Cond.keeps, Cond.steady])) hini)
  obtain ⟨hx, hb, hml, ho, -⟩ := S
  obtain ⟨-, ⟨cellB, hcB, hoB, hclB⟩, hPc⟩ := hp
  intro T hT X
  rcases vx_callVX X hx (C := C) (hh := hh) (bytes := bytes) (maxL := maxL) (ret := ret) ho hl hin hse hcode hy hK (by rw [hT]; exact hcB) hoB hclB hg (hsize.trans hml.symm) (argsL := As) (rest := rest) (fun sig h => hn.trans (hlen sig h)) hstack hW (by rw [hb]; exact hdg)
    (fun vm₁ hW₁ => ⟨hf.1, hf.2, hPc (T.setVm vm₁) hT hW₁⟩) with ⟨v, vm₁, ⟨U', l2, c2, s2⟩, hW₁, X', ⟨g', mk, t, L, e1, e2, hq, h1, hL, h2, h3⟩, st⟩ | ⟨q, vm₁, ⟨U', l2, c2, s2⟩, hW₁, X', ⟨g', mk, t, L, E, ce, e1, e2, hq, hce, hcv, hcl, h1, hL, h2, h3⟩, st⟩
  · dsimp only [Pt.U, Pt.locs, Pt.cells, Pt.slots] at X' e1 e2 h1 h2 h3 st
    subst h1; subst h2; subst h3
    exact Or.inl ⟨v, (T.setVm vm₁).calling g' mk (Value.ref b :: As).toArray, t, U', L, hT, X', hL, e1, e2, hq, st⟩
  · dsimp only [Pt.U, Pt.locs, Pt.cells, Pt.slots] at X' e1 e2 h1 h2 h3 st hcl
    subst h1; subst h2; subst h3
    exact Or.inr ⟨q, (T.setVm vm₁).calling g' mk (Value.ref b :: As).toArray, t, U', L, E, ce, hT, X', hL, e1, e2, hq, hce, hcv, vx_cls hW₁ hcl, st⟩
theorem vx_runSX {hh : List (Nat × Nat × Nat × Nat)} (S : CallFix p m c cc nL s args Ts own) (hM : vx_Met l y ws rm Pc Qc XC mc ms free) (cw : vx_CSW R s args own index y bytes maxL ret hh ws rm mc ms n) (hp : PreS s H Pc As)
    (hg : g.method = m) (hn : As.length = n) (hsize : g.locals.size = nL) (hstack : g.stack = As.reverse ++ rest) (hW : 2 * g.monitorRoom + (rest.map fun v => v.category).sum ≤ 8) (hdg : decode cc g.pc = .ok (.invokestatic index, 3)) (hf : cells + mc ≤ R.cells ∧ slots + ms ≤ R.slots) :
    vx_Run p l e R s m args below meth c H locs cells slots mc ms g rest (Qc As.toArray) XC free := by
  obtain ⟨⟨hrc, hrs, hfr, hlo, hws, hcw⟩, hcode, hini, hy, hlen, hl, hstt⟩ := cw
  have hK : vx_Back l R p e below s args y 3 8 (PreOf R mc ms Pc) (PostOf Qc mc ms free) (vx_Post XC mc ms free) := vx_backW (hh := hh) (bytes := bytes) (maxL := maxL) (ret := ret) hM hp.1 hrc hrs hfr hlo hws hcw (fun a' U hW => word_at hW (Or.inl (by first | rfl | simp [Cond.onTables, Cond.keeps, Cond.steady])) hini)
  obtain ⟨hx, hb, hml, ho, -⟩ := S
  intro T hT X
  rcases vx_callSX X hx (hh := hh) (bytes := bytes) (maxL := maxL) (ret := ret) ho hl hstt hini hcode hy hK hg (hsize.trans hml.symm) (argsL := As) (rest := rest) (fun sig h => hn.trans (hlen sig h)) hstack hW (by rw [hb]; exact hdg)
    (fun vm₁ hW₁ => ⟨hf.1, hf.2, hp.2 (T.setVm vm₁) hT hW₁⟩) with ⟨v, vm₁, ⟨U', l2, c2, s2⟩, hW₁, X', ⟨g', mk, t, L, e1, e2, hq, h1, hL, h2, h3⟩, st⟩ | ⟨q, vm₁, ⟨U', l2, c2, s2⟩, hW₁, X', ⟨g', mk, t, L, E, ce, e1, e2, hq, hce, hcv, hcl, h1, hL, h2, h3⟩, st⟩
  · dsimp only [Pt.U, Pt.locs, Pt.cells, Pt.slots] at X' e1 e2 h1 h2 h3 st
    subst h1; subst h2; subst h3
    exact Or.inl ⟨v, (T.setVm vm₁).calling g' mk As.toArray, t, U', L, hT, X', hL, e1, e2, hq, st⟩
  · dsimp only [Pt.U, Pt.locs, Pt.cells, Pt.slots] at X' e1 e2 h1 h2 h3 st hcl
    subst h1; subst h2; subst h3
    exact Or.inr ⟨q, (T.setVm vm₁).calling g' mk As.toArray, t, U', L, E, ce, hT, X', hL, e1, e2, hq, hce, hcv, vx_cls hW₁ hcl, st⟩
end
end VXH
theorem vx_ofWH {l : Launch} {y : MethodName} {ws ws' : List Cond} {rm : Room} {Pc : Array Value → State → Prop} {Qc : Array Value → State → Outcome → State → Prop} {XC : String → State → State → Prop} {mc ms : Nat} {free : Addr → Prop} {cc : ByteArray} {maxL : Nat} {ret : Option FieldType} {hh : List (Nat × Nat × Nat × Nat)}
    (hy : plainName y.cls = true) (hw : ws = Cond.codeWith y cc maxL ret hh :: ws')
    (body : ∀ p e s m args below meth c s₁, BodyLoose p l y (headSpec ws rm) cc maxL ret e s m args below meth c s₁ → c.maxLocals = maxL → Pc args s →
      W p l e (headSpec ws rm).room s m args below meth c s.heap [] 0 0 (vx_MQ below Qc XC args s mc ms free) (entryFrame m args maxL)) : vx_Met l y ws rm Pc Qc XC mc ms free := by
  refine MetFree.of_bodyS (code := cc) (maxLocals := maxL) (ret := ret) hy ?_ ?_
  · intro args s m h hn
    obtain ⟨m9, meth, c, hn9, h1, h2, h3, h4, -, h5, h6, -⟩ := Cond.codeWith_spec (atoms_spec (ws := ws) h _ (by rw [hw]; exact List.mem_cons_self))
    cases hn.symm.trans hn9
    exact ⟨meth, c, h1, h2, h3, h4, h5, h6⟩
  · intro p e s m args below meth c s₁ B hml hP _
    have hh0 : s₁.heap = s.heap := by rw [B.state]; rfl
    obtain ⟨t, a1, o, b1, b2, b3⟩ := body p e s m args below meth c s₁ B hml hP s₁ hh0 (Stand.of_body B)
    exact ⟨t, o, a1, b1, b2, b3⟩
/-! ===== END ===== -/
/-! ===== BEGIN what the machine throws by itself, no traces kept ===== -/
section VXM
set_option maxHeartbeats 1000000 in
/-- the machine throws cls with the message text, no traces kept: from its note over the frame g to 'throwing' over the same frame (follows the proofs of Stand.vmThrowsMessage, Shelf/KitTracedVmS.lean, and Stand.throwsMessageColdBareV, StandMessageColdV.lean, without the step out of the frame) -/
theorem vx_vmAt {p : Program} {l : Launch} {e : Env} {R : Room} {s : State} {m₀ : MethodId} {args : Array Value} {below : List Frame} {meth : Method} {c : Code} {W : State} {locs : List Loc} {cells slots : Nat}
    (X : Stand p l e R s m₀ args below meth c W locs cells slots) (hexec : p.tables.exec = Jvm.exec) (htr : e.platform.stackTraces = false) {cls : String} {names : List String} {text : String}
    (hcls : Bundle.fit cls = true) (hnames : ∀ n ∈ names, Bundle.fit n = true) (hsoe : (cls == "java/lang/StackOverflowError") = false) (hoom : (cls == "java/lang/OutOfMemoryError") = false)
    (h : ∀ a ∈ Bundle.messageArmAtoms cls names, a.before args s = true)
    (hlocs : ∀ x ∈ locs, ∀ cell, s.heap[x.base]? = some cell → cell.vm.isStatics = false)
    (htext : (text == notModelled) = false) (hlimit : ¬ (stringBytes (stringToUtf16 text)).size > e.platform.arrayLengthLimit) (hheap : ¬ (stringBytes (stringToUtf16 text)).size * componentBytes .byte > e.platform.maxHeapBytes)
    {g : JFrame} (hg : g.method = m₀) (hsize : g.locals.size = c.maxLocals)
    (hRframes : names.length + 4 < R.frames) (hRlocals : 2 * g.monitorRoom + (g.stack.map fun v => v.category).sum + 10240 ≤ R.locals) (hshort : 13 * names.length + 55 ≤ 10240)
    (hRcells : cells + 3 ≤ R.cells) (hRslots : slots + ((stringBytes (stringToUtf16 text)).size + 4 + 6) ≤ R.slots) (hlocks : meth.locks = false) :
    ∃ (S : State) (q : Addr) (ce : Cell), (∀ target, Steps p.tables e below ((S.setTop g).pushFrame (.throwing q)) target → Steps p.tables e below ((W.setTop g).pushFrame (.throwNew cls (some text) none)) target) ∧
      Stand p l e R s m₀ args below meth c S locs (cells + 3) (slots + ((stringBytes (stringToUtf16 text)).size + 4 + 6)) ∧ S.heap[q]? = some ce ∧ s.vm.findClass cls = some ce.cls ∧ ce.vm = .none := by
  have howns : e.platform.frameOwnsMonitors = true := by rw [X.admits.platform]
  have hfin : e.platform.finalization = false := by rw [X.admits.platform]
  have hpl : e.platform.magicAccessors = ({} : Platform).magicAccessors := by rw [X.admits.platform]
  have a : ∀ x, x ∈ Bundle.messageArmAtoms cls names → x.holds args s none s [] = true := fun x hx => h x hx
  obtain ⟨T, Z0, L, -, Y⟩ := ThrowableC.of_atoms (args := args) howns hfin hpl (fun x hx => h x (by simp [Bundle.messageArmAtoms, hx]))
  obtain ⟨Z, M, LZ, LM, hnZ⟩ := Init0T.ofS_atoms (args := args) hpl L Y (fun x hx => h x (by simp [Bundle.messageArmAtoms, hx]))
  obtain ⟨P1, Ps, hlen, L1, hL, hP1m, hlink1, hlink⟩ := Bundle.chainS (args := args) hpl hnZ names cls hcls hnames (fun x hx => h x (by simp [Bundle.messageArmAtoms, hx]))
  obtain ⟨Zs, LZs, hn4, hfitv, hfitc⟩ := StringT.of_atoms (args := args) (fun x hx => h x (by simp [Bundle.messageArmAtoms, hx]))
  have hfound : s.vm.findClass cls = some P1.m.cls := findClass_of_methodNamed hP1m
  obtain ⟨c1, kX, hc1, hk, hord, -, -, hn6⟩ := Cond.instantiable_spec (a (.instantiable cls 6) (by simp [Bundle.messageArmAtoms]))
  cases Option.some.inj (hc1.symm.trans hfound)
  have hinit := Cond.initialized_spec hfound hk (a (.initialized cls) (by simp [Bundle.messageArmAtoms]))
  have hctor : kX.findMethod "<init>" "(Ljava/lang/String;)V" = some P1.m.idx := findMethod_of_methodNamed hP1m hk
  have hsel0 : selectMethod e.platform s.vm P1.m.cls T.fill0 = .method T.fill0 := by
    obtain ⟨c2, r2, m2, q1, q2, q3, q4, -⟩ := Cond.selects_spec (a (.selects cls Bundle.tFill0 Bundle.tFill0) (by simp [Bundle.messageArmAtoms]))
    cases Option.some.inj (q1.symm.trans hfound)
    cases Option.some.inj (q2.symm.trans (State.methodFound?_of_named Y.fill0 (by decide)))
    cases Option.some.inj (q3.symm.trans Y.fill0)
    rw [Launch.admits_selectMethod X.admits]; exact q4
  have hselF : selectMethod e.platform s.vm P1.m.cls T.fill = .method T.fill := by
    obtain ⟨c2, r2, m2, q1, q2, q3, q4, -⟩ := Cond.selects_spec (a (.selects cls Bundle.tFill Bundle.tFill) (by simp [Bundle.messageArmAtoms]))
    cases Option.some.inj (q1.symm.trans hfound)
    cases Option.some.inj (q2.symm.trans (State.methodFound?_of_named Y.fill (by decide)))
    cases Option.some.inj (q3.symm.trans Y.fill)
    rw [Launch.admits_selectMethod X.admits]; exact q4
  obtain ⟨cellS0, hcS0, hiss⟩ := Y.statics
  obtain ⟨u0, hu0⟩ := Cond.staticRefV Y.unassigned L.unassignedStatic L.statics hcS0 hiss (a (.isRef (.static Bundle.tN "UNASSIGNED_STACK" Bundle.steD)) (by simp [Bundle.messageArmAtoms]))
  obtain ⟨sen, hsen⟩ := Cond.staticRefV Y.sentinel L.sentinelStatic L.statics hcS0 hiss (a (.isRef (.static Bundle.tN "SUPPRESSED_SENTINEL" Bundle.listD)) (by simp [Bundle.messageArmAtoms]))
  obtain ⟨ci198, i198, fB, hk198, hg198, ha198, hsB, -, hnB, htB, hffB⟩ := Cond.ownField (t := .object "java/lang/Object") Y.found L.cls (by decide +kernel) (a (.fieldLink Bundle.tN 198 Bundle.tN "backtrace" "Ljava/lang/Object;") (by simp [Bundle.messageArmAtoms])) (a (.lays Bundle.tN Bundle.tN "backtrace" "Ljava/lang/Object;") (by simp [Bundle.messageArmAtoms])) e.platform hpl
  obtain ⟨cellS, hcS', heS, -, hkeep⟩ := X.same.2.2.2.2.2 T.aS cellS0 hcS0
  have hcellS : W.heap[T.aS]? = some cellS := hcS'
  have hout' : ∀ i, (⟨T.aS, i⟩ : Loc) ∉ locs := fun i hmem => by
    have := hlocs _ hmem cellS0 hcS0
    rw [hiss] at this; cases this
  have hknownS : cellS.vm ≠ .unknown := by
    rw [heS]; intro hu
    rw [show cellS0.vm = .unknown from hu] at hiss
    cases hiss
  have hvU : cellS.slots[T.fUnassigned.slot]? = some u0.v := by rw [hkeep _ (hout' _)]; exact hu0
  have hvSen : cellS.slots[T.fSentinel.slot]? = some sen.v := by rw [hkeep _ (hout' _)]; exact hsen
  obtain ⟨iM, hffM⟩ := Y.msg
  obtain ⟨tyC, dC, hdC, hdnC⟩ := Cond.laysAt hfound hk Y.cause (a (.lays cls Bundle.tN "cause" "Ljava/lang/Throwable;") (by simp [Bundle.messageArmAtoms]))
  obtain ⟨tyS, dS, hdS, hdnS⟩ := Cond.laysAt hfound hk Y.stack (a (.lays cls Bundle.tN "stackTrace" Bundle.steD) (by simp [Bundle.messageArmAtoms]))
  obtain ⟨tyP, dP, hdP, hdnP⟩ := Cond.laysAt hfound hk Y.supp (a (.lays cls Bundle.tN "suppressedExceptions" Bundle.listD) (by simp [Bundle.messageArmAtoms]))
  obtain ⟨tyM, dM, hdM, hdnM⟩ := Cond.laysAt hfound hk hffM (a (.lays cls Bundle.tN "detailMessage" "Ljava/lang/String;") (by simp [Bundle.messageArmAtoms]))
  obtain ⟨tyB, dB, hdB, hdnB⟩ := Cond.laysAt hfound hk hffB (a (.lays cls Bundle.tN "backtrace" "Ljava/lang/Object;") (by simp [Bundle.messageArmAtoms]))
  have bC := Cond.laysApart hdB hdC hdnB hdnC (by rw [hnB, Y.causeName]; decide)
  have bS := Cond.laysApart hdB hdS hdnB hdnS (by rw [hnB, Y.stackName]; decide)
  have bP := Cond.laysApart hdB hdP hdnB hdnP (by rw [hnB, Y.suppName]; decide)
  have hbk : ((preparedCellV T.toThrowableT (freshCell P1.m.cls kX) (W.heap.size + 2) u0 sen).withEntry W.cur).slots[fB.slot]? = some .null := by
    have := fresh_default (c := P1.m.cls) tyB
    rw [htB] at this
    simpa [preparedCellV, Cell.setSlot, Cell.withEntry, Array.getElem?_setIfInBounds, bC, bS, bP, bC.symm, bS.symm, bP.symm, defaultValue] using this
  have tkC := Takes.of_laid (v := .ref (W.heap.size + 2)) hk hord tyC (by rw [Y.causeType]; rfl)
  have tkS := Takes.of_laid (v := u0.v) hk hord tyS (by rw [Y.stackType]; exact fits_refV_array _ u0)
  have tkP := Takes.of_laid (v := sen.v) hk hord tyP (by rw [Y.suppType]; exact fits_refV_object _ sen)
  have tkM := Takes.of_laid (v := .ref (W.heap.size + 1)) hk hord tyM (by rw [Y.msgType]; rfl)
  have hskip : SkipFacts T e.platform s (fun u => u) u0 ((preparedCellV T.toThrowableT (freshCell P1.m.cls kX) (W.heap.size + 2) u0 sen).withEntry W.cur) := ⟨{ ci198 := ci198, i198 := i198, fBack := fB }, ⟨hk198, hg198, ha198, hsB⟩, hbk, fun _ _ => rfl⟩
  have h0 : At W g.method c below := by rw [hg]; exact X.here
  obtain ⟨hbeyond, hfreeW⟩ := X.vmMayThrow hsize (.throwNew cls (some text) none) (fun f hf => by cases hf) rfl hRlocals
  have hfr' : W.frames.length + Ps.length + 4 < (e.platform.stackLimits W.me).1 := by have := X.framesAbove hRframes; omega
  have hwd' : (stackUse (.java g :: W.frames.tail)).2 + 13 * Ps.length + 55 ≤ (e.platform.stackLimits W.me).2 := by have := X.stackAbove hsize (K := 13 * Ps.length + 55) (by omega); omega
  have hslots : W.slotsUsed + (stringBytes (stringToUtf16 text)).size + Zs.kS.instanceTypes.size + kX.instanceTypes.size ≤ e.platform.maxSlots := by
    have := X.slotsAbove hRslots
    rw [hn4, hn6]
    omega
  obtain ⟨vm', hW', st⟩ := Steps.vmThrowsMessageColdByV p (s₀ := s) (S := W) (g := g) h0 hexec T L Z LZ M LM X.warmed (t := W.cur) rfl Zs LZs P1 L1 Ps hL hlink1 hlink hsoe hoom hfound hk hinit hord hctor
    (Launch.admits_hotImplicitExceptions X.admits) hbeyond hfreeW htext hlimit hheap (X.cellsAbove hRcells) hslots (hfitv _) (hfitc _)
    (Nn := fun u => u) heapOnly_id (fun _ _ => rfl) (fun _ => rfl) (fun u x y => setCell_twice _ _ _ _) (fun _ => Nat.le_refl _) (cN := ((preparedCellV T.toThrowableT (freshCell P1.m.cls kX) (W.heap.size + 2) u0 sen).withEntry W.cur))
    hsel0 hcellS hknownS hvU tkS (fun _ hu => hu) (fun _ hu => hu) rfl rfl rfl (by simp [preparedCellV, Cell.setSlot, Cell.withEntry]) hskip (fun _ _ hA hW _ hroom _ hrest => L.nativeOff p htr hA hW hroom hrest) hselF hvSen tkC tkP tkM Y.objLocals rfl hfr' hwd'
  rw [plainBareV_eq T.toThrowableT (W.heap.size + 2) u0 sen (.ref (W.heap.size + 1)) W.cur rfl rfl] at st
  obtain ⟨-, -, w3, w4, -, -, -⟩ := withThrown_facts e.platform W Zs text P1.m.cls kX
  have X3 := ((X.pushed (bytesOf Zs.cB (stringToUtf16 text))).pushed (stringAt Zs.cS Zs.kS Zs.fv Zs.fc (stringToUtf16 text) W.heap.size)).pushed (freshCell P1.m.cls kX)
  rw [← withString_eq] at X3
  have X4 := X3.noted hW'
  have ha : (W.heap.size + 2) < ((withThrown W Zs text P1.m.cls kX).setVm vm').heap.size := by show _ < (withThrown W Zs text P1.m.cls kX).heap.size; rw [w3]; omega
  have hcell : ((withThrown W Zs text P1.m.cls kX).setVm vm').heap[(W.heap.size + 2)]? = some (freshCell P1.m.cls kX) := w4
  have X5 := ((((X4.stored hcell T.fCause.slot (.ref (W.heap.size + 2))).storedAgain ha T.fStack.slot u0.v).storedAgain ha T.fSupp.slot sen.v).storedAgain ha T.fStack.slot u0.v).storedAgain ha T.fMsg.slot (.ref (W.heap.size + 1))
  obtain ⟨g₁, hfrM⟩ := X5.frames_eq
  have hU : ((((withThrown W Zs text P1.m.cls kX).setVm vm').setCell (W.heap.size + 2) (plainBareV T.toThrowableT (freshCell P1.m.cls kX) (W.heap.size + 2) u0 sen (.ref (W.heap.size + 1)))).setTop g).pushFrame (.throwing (W.heap.size + 2)) = (((withThrown W Zs text P1.m.cls kX).setVm vm').setCell (W.heap.size + 2) (plainBareV T.toThrowableT (freshCell P1.m.cls kX) (W.heap.size + 2) u0 sen (.ref (W.heap.size + 1)))).setFrames (.throwing (W.heap.size + 2) :: .java g :: below) := by
    rw [State.pushFrame, State.frames_setTop _ hfrM, State.setTop_of_frames _ hfrM, State.setFrames_setFrames]
  have b1 : (bytesOf Zs.cB (stringToUtf16 text)).slots.size = (stringBytes (stringToUtf16 text)).size := by
    rw [(Cell.writeAll_facts _ _).2.2]; simp [bytes0]
  have b2 : (stringAt Zs.cS Zs.kS Zs.fv Zs.fc (stringToUtf16 text) W.heap.size).slots.size = 4 := by simp [string0, Cell.setSlot, hn4]
  have b3 : (freshCell P1.m.cls kX).slots.size = 6 := by simp [hn6]
  rw [b1, b2, b3] at X5
  have e9 : slots + (stringBytes (stringToUtf16 text)).size + 4 + 6 = slots + ((stringBytes (stringToUtf16 text)).size + 4 + 6) := by omega
  rw [e9] at X5
  simp only [List.append_assoc, List.cons_append, List.nil_append] at X5
  refine ⟨((withThrown W Zs text P1.m.cls kX).setVm vm').setCell (W.heap.size + 2) (plainBareV T.toThrowableT (freshCell P1.m.cls kX) (W.heap.size + 2) u0 sen (.ref (W.heap.size + 1))), W.heap.size + 2, _, fun target ht => st _ (by rw [X.tail, ← hU]; exact ht),
    X5.forget (fun y hy => ?_), heapAt_setCell_self _ ha, hfound, rfl⟩
  simp only [List.mem_cons, List.not_mem_nil, or_false] at hy
  have hge : s.heap.size ≤ W.heap.size := X.same.2.1
  rcases hy with rfl | rfl | rfl | rfl | rfl <;> exact Nat.le_trans hge (Nat.le_add_right _ 2)
set_option maxHeartbeats 1000000 in
/-- the machine throws NullPointerException, no traces kept: from its note over the frame g to 'throwing' over the same frame (follows the proof of Stand.vmThrowsNpe, Shelf42/KT2.lean; throwsNpeColdBareVAt, Shelf42/NT91.lean, called) -/
theorem vx_npeAt {p : Program} {l : Launch} {e : Env} {R : Room} {s : State} {m₀ : MethodId} {args : Array Value} {below : List Frame} {meth : Method} {c : Code} {W : State} {locs : List Loc} {cells slots : Nat}
    (X : Stand p l e R s m₀ args below meth c W locs cells slots) (hexec : p.tables.exec = Jvm.exec) (htr : e.platform.stackTraces = false) {n : Nat}
    (h : ∀ a ∈ Bundle.npeArmAtoms n, a.before args s = true)
    (hlocs : ∀ x ∈ locs, ∀ cell, s.heap[x.base]? = some cell → cell.vm.isStatics = false)
    {g : JFrame} (hg : g.method = m₀) (hsize : g.locals.size = c.maxLocals)
    (hRframes : 7 < R.frames) (hRlocals : 2 * g.monitorRoom + (g.stack.map fun v => v.category).sum + 10240 ≤ R.locals)
    (hRcells : cells + 1 ≤ R.cells) (hRslots : slots + n ≤ R.slots) (hlocks : meth.locks = false) :
    ∃ (S : State) (q : Addr) (ce : Cell), (∀ target, Steps p.tables e below ((S.setTop g).pushFrame (.throwing q)) target → Steps p.tables e below ((W.setTop g).pushFrame (.throwNew "java/lang/NullPointerException" none none)) target) ∧
      Stand p l e R s m₀ args below meth c S locs (cells + 1) (slots + n) ∧ S.heap[q]? = some ce ∧ s.vm.findClass "java/lang/NullPointerException" = some ce.cls ∧ ce.vm = .none := by
  have howns : e.platform.frameOwnsMonitors = true := by rw [X.admits.platform]
  have hfin : e.platform.finalization = false := by rw [X.admits.platform]
  have hpl : e.platform.magicAccessors = ({} : Platform).magicAccessors := by rw [X.admits.platform]
  have hpl2 : e.platform.arrayCloneIsPublic = true := by rw [X.admits.platform]
  have a' : ∀ x, x ∈ Bundle.npeArmAtoms n → x.holds args s none s [] = true := fun x hx => h x hx
  obtain ⟨T, Z, L, LZ, Y⟩ := ThrowableC.of_atoms (args := args) howns hfin hpl (fun x hx => h x (by simp [Bundle.npeArmAtoms, hx]))
  obtain ⟨N, LN, hcN, hnNF, hordN, hffS⟩ := NpeC.of_atoms (args := args) hpl hpl2 L Y (fun x hx => h x (by simp [Bundle.npeArmAtoms, hx]))
  obtain ⟨P1, L1, hP1m, hP1s⟩ := PassC.of_atoms (args := args) (s := s) hpl (X := Bundle.nN) (Y := Bundle.rN) (by decide) (by decide) LibCode.NullPointerException.Init0.at_0 LibCode.NullPointerException.Init0.at_1 LibCode.NullPointerException.Init0.at_4 (fun x hx => h x (by simp [Bundle.npeArmAtoms, hx]))
  obtain ⟨PR, LR, hPRm, hPRs⟩ := PassC.of_atoms (args := args) (s := s) hpl (X := Bundle.rN) (Y := Bundle.eN) (by decide) (by decide) LibCode.RuntimeException.Init0.at_0 LibCode.RuntimeException.Init0.at_1 LibCode.RuntimeException.Init0.at_4 (fun x hx => h x (by simp [Bundle.npeArmAtoms, hx]))
  obtain ⟨PE, LEx, hPEm, hPEs⟩ := PassC.of_atoms (args := args) (s := s) hpl (X := Bundle.eN) (Y := Bundle.tN) (by decide) (by decide) LibCode.Exception.Init0.at_0 LibCode.Exception.Init0.at_1 LibCode.Exception.Init0.at_4 (fun x hx => h x (by simp [Bundle.npeArmAtoms, hx]))
  have hfound : s.vm.findClass Bundle.nN = some P1.m.cls := findClass_of_methodNamed hP1m
  have ecls : N.cN = P1.m.cls := Option.some.inj (hcN.symm.trans hfound)
  have hk : s.vm.classes[P1.m.cls]? = some N.kN := by rw [← ecls]; exact LN.cls
  have hinit := Cond.initialized_spec hfound hk (a' (.initialized Bundle.nN) (by simp [Bundle.npeArmAtoms]))
  have hctor : N.kN.findMethod "<init>" "()V" = some P1.m.idx := findMethod_of_methodNamed hP1m hk
  obtain ⟨c1, k1, hc1, hk1, -, -, -, hn⟩ := Cond.instantiable_spec (a' (.instantiable Bundle.nN n) (by simp [Bundle.npeArmAtoms]))
  cases Option.some.inj (hc1.symm.trans hfound)
  cases Option.some.inj (hk1.symm.trans hk)
  have hfsz : (freshCell P1.m.cls N.kN).slots.size = n := by simp [hn]
  have hlink1 : P1.sup = PR.m := Option.some.inj (hP1s.symm.trans hPRm)
  have hlinkR : PR.sup = PE.m := Option.some.inj (hPRs.symm.trans hPEm)
  have hlinkE : PE.sup = Z.m T.toThrowableT := Option.some.inj (hPEs.symm.trans Y.init0)
  have hLs : ∀ P, P ∈ [PR, PE] → P.Links0 e.platform s := fun P hP => by
    simp only [List.mem_cons, List.not_mem_nil, or_false] at hP
    rcases hP with rfl | rfl
    · exact LR
    · exact LEx
  have hsel0 : selectMethod e.platform s.vm P1.m.cls T.fill0 = .method T.fill0 := by
    obtain ⟨c2, r2, m2, q1, q2, q3, q4, -⟩ := Cond.selects_spec (a' (.selects Bundle.nN Bundle.tFill0 Bundle.tFill0) (by simp [Bundle.npeArmAtoms]))
    cases Option.some.inj (q1.symm.trans hfound)
    cases Option.some.inj (q2.symm.trans (State.methodFound?_of_named Y.fill0 (by decide)))
    cases Option.some.inj (q3.symm.trans Y.fill0)
    rw [Launch.admits_selectMethod X.admits]; exact q4
  have hselF : selectMethod e.platform s.vm P1.m.cls T.fill = .method N.fill := by
    obtain ⟨c2, r2, m2, q1, q2, q3, q4, -⟩ := Cond.selects_spec (a' (.selects Bundle.nN Bundle.tFill Bundle.nFill) (by simp [Bundle.npeArmAtoms]))
    cases Option.some.inj (q1.symm.trans hfound)
    cases Option.some.inj (q2.symm.trans (State.methodFound?_of_named Y.fill (by decide)))
    cases Option.some.inj (q3.symm.trans hnNF)
    rw [Launch.admits_selectMethod X.admits]; exact q4
  obtain ⟨cellS0, hcS0, hiss⟩ := Y.statics
  obtain ⟨u0, hu0⟩ := Cond.staticRefV Y.unassigned L.unassignedStatic L.statics hcS0 hiss (a' (.isRef (.static Bundle.tN "UNASSIGNED_STACK" Bundle.steD)) (by simp [Bundle.npeArmAtoms]))
  obtain ⟨sen, hsen⟩ := Cond.staticRefV Y.sentinel L.sentinelStatic L.statics hcS0 hiss (a' (.isRef (.static Bundle.tN "SUPPRESSED_SENTINEL" Bundle.listD)) (by simp [Bundle.npeArmAtoms]))
  obtain ⟨ci198, i198, fB, hk198, hg198, ha198, hsB, -, hnB, htB, hffB⟩ := Cond.ownField (t := .object "java/lang/Object") Y.found L.cls (by decide +kernel) (a' (.fieldLink Bundle.tN 198 Bundle.tN "backtrace" Bundle.objD) (by simp [Bundle.npeArmAtoms])) (a' (.lays Bundle.tN Bundle.tN "backtrace" Bundle.objD) (by simp [Bundle.npeArmAtoms])) e.platform hpl
  obtain ⟨cellS, hcS', heS, -, hkeep⟩ := X.same.2.2.2.2.2 T.aS cellS0 hcS0
  have hcellS : W.heap[T.aS]? = some cellS := hcS'
  have hout' : ∀ i, (⟨T.aS, i⟩ : Loc) ∉ locs := fun i hmem => by
    have := hlocs _ hmem cellS0 hcS0
    rw [hiss] at this; cases this
  have hknownS : cellS.vm ≠ .unknown := by
    rw [heS]; intro hu
    rw [show cellS0.vm = .unknown from hu] at hiss
    cases hiss
  have hvU : cellS.slots[T.fUnassigned.slot]? = some u0.v := by rw [hkeep _ (hout' _)]; exact hu0
  have hvSen : cellS.slots[T.fSentinel.slot]? = some sen.v := by rw [hkeep _ (hout' _)]; exact hsen
  obtain ⟨tyC, dC, hdC, hdnC⟩ := Cond.laysAt hfound hk Y.cause (a' (.lays Bundle.nN Bundle.tN "cause" "Ljava/lang/Throwable;") (by simp [Bundle.npeArmAtoms]))
  obtain ⟨tyS, dS, hdS, hdnS⟩ := Cond.laysAt hfound hk Y.stack (a' (.lays Bundle.nN Bundle.tN "stackTrace" Bundle.steD) (by simp [Bundle.npeArmAtoms]))
  obtain ⟨tyP, dP, hdP, hdnP⟩ := Cond.laysAt hfound hk Y.supp (a' (.lays Bundle.nN Bundle.tN "suppressedExceptions" Bundle.listD) (by simp [Bundle.npeArmAtoms]))
  obtain ⟨tyX, dX, hdX, hdnX⟩ := Cond.laysAt hfound hk hffS (a' (.lays Bundle.nN Bundle.nN "extendedMessageState" "I") (by simp [Bundle.npeArmAtoms, Bundle.npeAtoms]))
  obtain ⟨hnX, htX⟩ := State.fieldFound?_type hffS (t := .int) (by decide +kernel)
  have xC := Cond.laysApart hdC hdX hdnC hdnX (by rw [hnX, Y.causeName]; decide)
  have xS := Cond.laysApart hdS hdX hdnS hdnX (by rw [hnX, Y.stackName]; decide)
  have xP := Cond.laysApart hdP hdX hdnP hdnX (by rw [hnX, Y.suppName]; decide)
  have hv0 : (freshCell P1.m.cls N.kN).slots[N.fState.slot]? = some (.int 0) := by
    have := fresh_default (c := P1.m.cls) tyX
    rw [htX] at this; exact this
  obtain ⟨tyB, dB, hdB, hdnB⟩ := Cond.laysAt hfound hk hffB (a' (.lays Bundle.nN Bundle.tN "backtrace" Bundle.objD) (by simp [Bundle.npeArmAtoms]))
  have bC := Cond.laysApart hdB hdC hdnB hdnC (by rw [hnB, Y.causeName]; decide)
  have bS := Cond.laysApart hdB hdS hdnB hdnS (by rw [hnB, Y.stackName]; decide)
  have bP := Cond.laysApart hdB hdP hdnB hdnP (by rw [hnB, Y.suppName]; decide)
  have bX := Cond.laysApart hdB hdX hdnB hdnX (by rw [hnB, hnX]; decide)
  have hbk : ((npeCell N.toNpeT (preparedCellV T.toThrowableT (freshCell P1.m.cls N.kN) W.heap.size u0 sen) W.cur).withEntry W.cur).slots[fB.slot]? = some .null := by
    have := fresh_default (c := P1.m.cls) tyB
    rw [htB] at this
    simpa [npeCell, preparedCellV, Cell.setSlot, Cell.withEntry, Array.getElem?_setIfInBounds, bC, bS, bP, bX, bC.symm, bS.symm, bP.symm, bX.symm, defaultValue] using this
  have tkC := Takes.of_laid (v := .ref W.heap.size) hk hordN tyC (by rw [Y.causeType]; rfl)
  have tkS := Takes.of_laid (v := u0.v) hk hordN tyS (by rw [Y.stackType]; exact fits_refV_array _ u0)
  have tkP := Takes.of_laid (v := sen.v) hk hordN tyP (by rw [Y.suppType]; exact fits_refV_object _ sen)
  have tkX := Takes.of_laid (v := .int 1) hk hordN tyX (by rw [htX]; rfl)
  have hskip : SkipFacts T e.platform s (fun u => u) u0 ((npeCell N.toNpeT (preparedCellV T.toThrowableT (freshCell P1.m.cls N.kN) W.heap.size u0 sen) W.cur).withEntry W.cur) := ⟨{ ci198 := ci198, i198 := i198, fBack := fB }, ⟨hk198, hg198, ha198, hsB⟩, hbk, fun _ _ => rfl⟩
  obtain ⟨vm', X3, st, -⟩ := X.throwsNpeColdBareVAt hexec hg hsize T L Z LZ N LN P1 L1 [PR, PE] hLs hlink1 ⟨hlinkR, hlinkE, trivial⟩ hfound hk hinit hordN hctor hsel0 hselF hcellS hknownS hvU hvSen
    hv0 xC xS xP tkC tkS tkP tkX Y.objLocals hskip (fun _ _ hA hW _ hroom _ hrest => L.nativeOff p htr hA hW hroom hrest) (by simpa using hRframes) hRlocals (by simp) hRcells (by rw [hn]; exact hRslots)
  have hlt : W.heap.size < ((W.pushCell (freshCell P1.m.cls N.kN)).setVm vm').heap.size := by
    show W.heap.size < (W.pushCell (freshCell P1.m.cls N.kN)).heap.size
    rw [State.heap_size_pushCell]; omega
  rw [hfsz] at X3
  obtain ⟨g₁, hfrM⟩ := X3.frames_eq
  have hU : ((((W.pushCell (freshCell P1.m.cls N.kN)).setVm vm').setCell W.heap.size (npeBareV T.toThrowableT N.toNpeT (freshCell P1.m.cls N.kN) W.heap.size u0 sen)).setTop g).pushFrame (.throwing W.heap.size) = (((W.pushCell (freshCell P1.m.cls N.kN)).setVm vm').setCell W.heap.size (npeBareV T.toThrowableT N.toNpeT (freshCell P1.m.cls N.kN) W.heap.size u0 sen)).setFrames (.throwing W.heap.size :: .java g :: below) := by
    rw [State.pushFrame, State.frames_setTop _ hfrM, State.setTop_of_frames _ hfrM, State.setFrames_setFrames]
  refine ⟨_, W.heap.size, _, fun target ht => st.trans (by rw [← hU]; exact ht), X3.forget (fun y hy => ?_), heapAt_setCell_self _ hlt, hfound, rfl⟩
  simp only [List.mem_cons, List.not_mem_nil, or_false] at hy
  have hge : s.heap.size ≤ W.heap.size := X.same.2.1
  rcases hy with rfl | rfl | rfl | rfl | rfl <;> exact hge
/-- the words of a machine's NullPointerException, but the four that speak of the heap -/
def vx_atN (n : Nat) : List Cond := (Bundle.npeArmAtoms n).filter vx_no
/-- the words of a machine's throw with a message, but the four that speak of the heap -/
def vx_atM (X : String) (names : List String) : List Cond := (Bundle.messageArmAtoms X names).filter vx_no
section
variable {p : Program} {l : Launch} {e : Env} {R : Room} {s : State} {m : MethodId} {args : Array Value} {below : List Frame} {meth : Method} {c : Code} {H : Heap} {locs : List Loc} {cells slots : Nat}
/-- a frame seen from a rebased start, seen from the first start again -/
theorem vx_back9 {T S : State} {R' : Room} {k n : Nat} (X : Stand p l e R s m args below meth c T locs cells slots) (Y : Stand p l e R' ((T.setVm s.vm).setFrames (.invoking m args :: below)) m args below meth c T [] 0 0) (Z : Stand p l e R' ((T.setVm s.vm).setFrames (.invoking m args :: below)) m args below meth c S [] k n) :
    Stand p l e R s m args below meth c S locs (cells + k) (slots + n) := by
  have hW0 : s.WarmedH ((T.setVm s.vm).setFrames (.invoking m args :: below)).vm := State.WarmedH.refl s
  refine { admits := X.admits, cas := X.cas, clock := X.clock, frames := X.frames, room := X.room, hears := X.hears, method := X.method, code := X.code, here := Z.here, tail := Z.tail, warmed := State.WarmedH.trans hW0 Z.warmed, limits := Z.limits.trans (Y.limits.symm.trans X.limits), bytes := Z.bytes.trans (Y.bytes.symm.trans X.bytes), same := ?_ }
  obtain ⟨e1, e2⟩ := Z.same
  rw [State.setFrames_setFrames] at e1
  have h2 : (T.setVm s.vm).sameButNew (S.setVm s.vm) [] k n := ⟨e1, e2⟩
  have h3 := X.same.trans h2
  rw [List.append_nil] at h3
  exact h3
/-- from the machine's note that E is thrown here with this text -/
def vx_Note (p : Program) (l : Launch) (e : Env) (R : Room) (s : State) (m : MethodId) (args : Array Value) (below : List Frame) (meth : Method) (c : Code) (H : Heap) (locs : List Loc) (cells slots : Nat) (Q : State → Prop) (g : JFrame) (E text : String) : Prop :=
  ∀ T : State, T.heap = H → Stand p l e R s m args below meth c T locs cells slots → ∃ t, Steps p.tables e below ((T.setTop g).pushFrame (.throwNew E (some text) none)) t ∧ Q t
theorem vx_vm {pc : Nat} {ls : Array Slot} {rest : List Value} {Q : State → Prop} (hexec : p.tables.exec = Jvm.exec) (hl : l.stackTraces = false) {cls text : String} {names : List String} {nb : Nat} {A : Nat → Prop}
    (hcls : Bundle.fit cls = true) (hnames : ∀ n ∈ names, Bundle.fit n = true) (hsoe : (cls == "java/lang/StackOverflowError") = false) (hoom : (cls == "java/lang/OutOfMemoryError") = false)
    (hat : ∀ w ∈ vx_atM cls names, w.before args s = true) (hgood : ∀ w ∈ vx_atM cls names, vx_ot w = true)
    (hU : vx_Zq Bundle.tN "UNASSIGNED_STACK" Bundle.steD A s s.heap) (hN : vx_Zq Bundle.tN "SUPPRESSED_SENTINEL" Bundle.listD A s s.heap) (hS : va_S A s.heap H locs) (hsize : ls.size = c.maxLocals)
    (htext : (text == notModelled) = false) (hnb : (stringBytes (stringToUtf16 text)).size ≤ nb) (hnb1 : nb ≤ 1000)
    (hRframes : names.length + 4 < R.frames) (hRlocals : (rest.map fun v => v.category).sum + 10240 ≤ R.locals) (hshort : 13 * names.length + 55 ≤ 10240) (hRcells : cells + 3 ≤ R.cells) (hRslots : slots + (nb + 10) ≤ R.slots) (hlocks : meth.locks = false)
    (k : ∀ (H1 : Heap) (q9 : Addr) (ce : Cell), H.size ≤ H1.size → (∀ q : Nat, q < H.size → H1[q]? = H[q]?) → va_S A s.heap H1 locs → H1[q9]? = some ce → ce.vm = .none → s.vm.findClass cls = some ce.cls → vx_W p l e R s m args below meth c H1 locs (cells + 3) (slots + (nb + 10)) Q (F0 m pc ls rest) q9) :
    vx_Note p l e R s m args below meth c H locs cells slots Q (F0 m pc ls rest) cls text := by
  intro T hT X
  have htr : e.platform.stackTraces = false := (show e.platform.stackTraces = l.stackTraces by rw [X.admits.platform]).trans hl
  have Y := vx_rebase X (R' := { frames := R.frames, locals := R.locals, cells := 3, slots := nb + 10 }) (Nat.le_refl _) (Nat.le_refl _) hRcells hRslots
  have hhp : ((T.setVm s.vm).setFrames (.invoking m args :: below)).heap = H := hT
  have hW0 : s.WarmedH ((T.setVm s.vm).setFrames (.invoking m args :: below)).vm := State.WarmedH.refl s
  have hat' : ∀ w ∈ vx_atM cls names, w.before args ((T.setVm s.vm).setFrames (.invoking m args :: below)) = true := fun w hw => vx_ot_at hW0 rfl (hgood w hw) (hat w hw)
  have hU' : vx_Zq Bundle.tN "UNASSIGNED_STACK" Bundle.steD A ((T.setVm s.vm).setFrames (.invoking m args :: below)) ((T.setVm s.vm).setFrames (.invoking m args :: below)).heap := by rw [hhp]; exact vx_Zq.moved hW0.alike (hU.kept hS.2.1)
  have hN' : vx_Zq Bundle.tN "SUPPRESSED_SENTINEL" Bundle.listD A ((T.setVm s.vm).setFrames (.invoking m args :: below)) ((T.setVm s.vm).setFrames (.invoking m args :: below)).heap := by rw [hhp]; exact vx_Zq.moved hW0.alike (hN.kept hS.2.1)
  obtain ⟨S, q, ce, st, Z, hce, hcl', hv⟩ := vx_vmAt Y hexec htr (cls := cls) (names := names) (text := text) hcls hnames hsoe hoom (vx_own hat' (vx_isRefq hU'.1) (vx_isRefq hN'.1) hU'.2.word hN'.2.word) (fun x hx => nomatch hx) htext
    (by rw [Launch.admits_arrayLengthLimit X.admits]; omega) (by rw [Launch.admits_maxHeapBytes X.admits]; simp only [componentBytes]; omega)
    (g := F0 m pc ls rest) rfl hsize hRframes (by show 2 * 0 + (rest.map fun v => v.category).sum + 10240 ≤ R.locals; omega) hshort (by show 0 + 3 ≤ 3; omega) (by show 0 + (_ + 4 + 6) ≤ nb + 10; omega) hlocks
  obtain ⟨f1, f2⟩ := vx_frame Z.same
  have f1' : H.size ≤ S.heap.size := by rw [← hT]; exact f1
  have f2' : ∀ q : Nat, q < H.size → S.heap[q]? = H[q]? := fun q hq => by
    rw [← hT]
    exact f2 q (by rw [← hT] at hq; exact hq) (fun z hz => nomatch hz)
  have X5 := vx_back9 X Y Z
  have X6 : Stand p l e R s m args below meth c S locs (cells + 3) (slots + (nb + 10)) := { X5 with same := X5.same.mono (by omega) (by omega) }
  obtain ⟨t, a1, b1⟩ := k S.heap q ce f1' f2' ⟨Nat.le_trans hS.1 f1', fun q h1 h2 => (f2' q (Nat.lt_of_lt_of_le h1 hS.1)).trans (hS.2.1 q h1 h2), hS.2.2⟩ hce hv hcl' S rfl X6
  exact ⟨t, st t a1, b1⟩
/-- from the machine's note that NullPointerException is thrown here -/
def vx_NoteN (p : Program) (l : Launch) (e : Env) (R : Room) (s : State) (m : MethodId) (args : Array Value) (below : List Frame) (meth : Method) (c : Code) (H : Heap) (locs : List Loc) (cells slots : Nat) (Q : State → Prop) (g : JFrame) : Prop :=
  ∀ T : State, T.heap = H → Stand p l e R s m args below meth c T locs cells slots → ∃ t, Steps p.tables e below ((T.setTop g).pushFrame (.throwNew "java/lang/NullPointerException" none none)) t ∧ Q t
theorem vx_npe {pc : Nat} {ls : Array Slot} {rest : List Value} {Q : State → Prop} (hexec : p.tables.exec = Jvm.exec) (hl : l.stackTraces = false) {nb : Nat} {A : Nat → Prop}
    (hat : ∀ w ∈ vx_atN nb, w.before args s = true) (hgood : ∀ w ∈ vx_atN nb, vx_ot w = true)
    (hU : vx_Zq Bundle.tN "UNASSIGNED_STACK" Bundle.steD A s s.heap) (hN : vx_Zq Bundle.tN "SUPPRESSED_SENTINEL" Bundle.listD A s s.heap) (hS : va_S A s.heap H locs) (hsize : ls.size = c.maxLocals)
    (hRframes : 7 < R.frames) (hRlocals : (rest.map fun v => v.category).sum + 10240 ≤ R.locals) (hRcells : cells + 1 ≤ R.cells) (hRslots : slots + nb ≤ R.slots) (hlocks : meth.locks = false)
    (k : ∀ (H1 : Heap) (q9 : Addr) (ce : Cell), H.size ≤ H1.size → (∀ q : Nat, q < H.size → H1[q]? = H[q]?) → va_S A s.heap H1 locs → H1[q9]? = some ce → ce.vm = .none → s.vm.findClass "java/lang/NullPointerException" = some ce.cls → vx_W p l e R s m args below meth c H1 locs (cells + 1) (slots + nb) Q (F0 m pc ls rest) q9) :
    vx_NoteN p l e R s m args below meth c H locs cells slots Q (F0 m pc ls rest) := by
  intro T hT X
  have htr : e.platform.stackTraces = false := (show e.platform.stackTraces = l.stackTraces by rw [X.admits.platform]).trans hl
  have Y := vx_rebase X (R' := { frames := R.frames, locals := R.locals, cells := 1, slots := nb }) (Nat.le_refl _) (Nat.le_refl _) hRcells hRslots
  have hhp : ((T.setVm s.vm).setFrames (.invoking m args :: below)).heap = H := hT
  have hW0 : s.WarmedH ((T.setVm s.vm).setFrames (.invoking m args :: below)).vm := State.WarmedH.refl s
  have hat' : ∀ w ∈ vx_atN nb, w.before args ((T.setVm s.vm).setFrames (.invoking m args :: below)) = true := fun w hw => vx_ot_at hW0 rfl (hgood w hw) (hat w hw)
  have hU' : vx_Zq Bundle.tN "UNASSIGNED_STACK" Bundle.steD A ((T.setVm s.vm).setFrames (.invoking m args :: below)) ((T.setVm s.vm).setFrames (.invoking m args :: below)).heap := by rw [hhp]; exact vx_Zq.moved hW0.alike (hU.kept hS.2.1)
  have hN' : vx_Zq Bundle.tN "SUPPRESSED_SENTINEL" Bundle.listD A ((T.setVm s.vm).setFrames (.invoking m args :: below)) ((T.setVm s.vm).setFrames (.invoking m args :: below)).heap := by rw [hhp]; exact vx_Zq.moved hW0.alike (hN.kept hS.2.1)
  obtain ⟨S, q, ce, st, Z, hce, hcl', hv⟩ := vx_npeAt Y hexec htr (n := nb) (vx_own hat' (vx_isRefq hU'.1) (vx_isRefq hN'.1) hU'.2.word hN'.2.word) (fun x hx => nomatch hx)
    (g := F0 m pc ls rest) rfl hsize hRframes (by show 2 * 0 + (rest.map fun v => v.category).sum + 10240 ≤ R.locals; omega) (by show 0 + 1 ≤ 1; omega) (by show 0 + nb ≤ nb; omega) hlocks
  obtain ⟨f1, f2⟩ := vx_frame Z.same
  have f1' : H.size ≤ S.heap.size := by rw [← hT]; exact f1
  have f2' : ∀ q : Nat, q < H.size → S.heap[q]? = H[q]? := fun q hq => by
    rw [← hT]
    exact f2 q (by rw [← hT] at hq; exact hq) (fun z hz => nomatch hz)
  have X5 := vx_back9 X Y Z
  have X6 : Stand p l e R s m args below meth c S locs (cells + 1) (slots + nb) := { X5 with same := X5.same.mono (by omega) (by omega) }
  obtain ⟨t, a1, b1⟩ := k S.heap q ce f1' f2' ⟨Nat.le_trans hS.1 f1', fun q h1 h2 => (f2' q (Nat.lt_of_lt_of_le h1 hS.1)).trans (hS.2.1 q h1 h2), hS.2.2⟩ hce hv hcl' S rfl X6
  exact ⟨t, st t a1, b1⟩
variable {Q : State → Prop} {cc : ByteArray} {pc : Nat} {ls : Array Slot} {rest : List Value}
theorem vx_idivZ (hexec : p.tables.exec = Jvm.exec) (hb : c.code = cc) {a b : Int32} (h0 : b = 0) (d : decode cc pc = .ok (.idiv, 1)) (k : vx_Note p l e R s m args below meth c H locs cells slots Q (F0 m pc ls rest) "java/lang/ArithmeticException" "/ by zero") :
    W p l e R s m args below meth c H locs cells slots Q (F0 m pc ls (.int b :: .int a :: rest)) := by
  intro T hT X
  obtain ⟨t, st, q⟩ := k T hT X
  exact ⟨t, X.idivZero hexec (g := F0 m pc ls (.int b :: .int a :: rest)) rfl (a := a) (rest := rest) (by rw [h0]) (by rw [hb]; exact d) t st, q⟩
theorem vx_iremZ (hexec : p.tables.exec = Jvm.exec) (hb : c.code = cc) {a b : Int32} (h0 : b = 0) (d : decode cc pc = .ok (.irem, 1)) (k : vx_Note p l e R s m args below meth c H locs cells slots Q (F0 m pc ls rest) "java/lang/ArithmeticException" "/ by zero") :
    W p l e R s m args below meth c H locs cells slots Q (F0 m pc ls (.int b :: .int a :: rest)) := by
  intro T hT X
  obtain ⟨t, st, q⟩ := k T hT X
  exact ⟨t, X.iremZero hexec (g := F0 m pc ls (.int b :: .int a :: rest)) rfl (a := a) (rest := rest) (by rw [h0]) (by rw [hb]; exact d) t st, q⟩
theorem vx_ldivZ (hexec : p.tables.exec = Jvm.exec) (hb : c.code = cc) {a b : Int64} (h0 : b = 0) (d : decode cc pc = .ok (.ldiv, 1)) (k : vx_Note p l e R s m args below meth c H locs cells slots Q (F0 m pc ls rest) "java/lang/ArithmeticException" "/ by zero") :
    W p l e R s m args below meth c H locs cells slots Q (F0 m pc ls (.long b :: .long a :: rest)) := by
  intro T hT X
  obtain ⟨t, st, q⟩ := k T hT X
  exact ⟨t, X.ldivZero hexec (g := F0 m pc ls (.long b :: .long a :: rest)) rfl (a := a) (rest := rest) (by rw [h0]) (by rw [hb]; exact d) t st, q⟩
theorem vx_lremZ (hexec : p.tables.exec = Jvm.exec) (hb : c.code = cc) {a b : Int64} (h0 : b = 0) (d : decode cc pc = .ok (.lrem, 1)) (k : vx_Note p l e R s m args below meth c H locs cells slots Q (F0 m pc ls rest) "java/lang/ArithmeticException" "/ by zero") :
    W p l e R s m args below meth c H locs cells slots Q (F0 m pc ls (.long b :: .long a :: rest)) := by
  intro T hT X
  obtain ⟨t, st, q⟩ := k T hT X
  exact ⟨t, X.lremZero hexec (g := F0 m pc ls (.long b :: .long a :: rest)) rfl (a := a) (rest := rest) (by rw [h0]) (by rw [hb]; exact d) t st, q⟩
theorem vx_ialdZ {D : va_G} {cl : List vw_C} {ws : va_W} {tys : List (ClassId × FieldType)} {a : Nat} (hexec : p.tables.exec = Jvm.exec) (hb : c.code = cc) (hK : va_K D cl tys s) (hP : va_P D cl ws H) (q0 t0 : Nat) {cA : ClassId} {n : Nat} {f : Nat → Int32} (ha : ws[q0]? = some (a, .inl (cA, n, .inl f))) (ht : tys[t0]? = some (cA, .int)) {i : Int32} (hout : ¬ vp_in i n) (hdg : decode cc pc = .ok (.iaload, 1))
    (k : ∀ tx : String, tx = (toString "Index " ++ toString i ++ toString " out of bounds for length " ++ toString n : String) → vx_Note p l e R s m args below meth c H locs cells slots Q (F0 m pc ls rest) "java/lang/ArrayIndexOutOfBoundsException" tx) : W p l e R s m args below meth c H locs cells slots Q (F0 m pc ls (.int i :: .ref a :: rest)) := by
  intro T hT X
  obtain ⟨t, st, q⟩ := k _ rfl T hT X
  refine ⟨t, ?_, q⟩
  have h1 := X.ialoadOut hexec (by rw [hT]; exact hP q0 _ ha) ((hK.2 t0 _ ht).1 n (fun j => .int (f j))) (j := i) (by show (i < 0 ∨ (arrV _ _ _).slots.size ≤ _); rw [arrV_size]; exact Classical.byContradiction hout) (g := F0 m pc ls (.int i :: .ref a :: rest)) rfl (rest := rest) rfl (by rw [hb]; exact hdg) t
  simp only [arrV_size] at h1
  exact h1 st
theorem vx_iastZ {D : va_G} {cl : List vw_C} {ws : va_W} {tys : List (ClassId × FieldType)} {a : Nat} (hexec : p.tables.exec = Jvm.exec) (hb : c.code = cc) (hK : va_K D cl tys s) (hP : va_P D cl ws H) (q0 t0 : Nat) {cA : ClassId} {n : Nat} {f : Nat → Int32} (ha : ws[q0]? = some (a, .inl (cA, n, .inl f))) (ht : tys[t0]? = some (cA, .int)) {i : Int32} {x : Int32} (hout : ¬ vp_in i n) (hdg : decode cc pc = .ok (.iastore, 1))
    (k : ∀ tx : String, tx = (toString "Index " ++ toString i ++ toString " out of bounds for length " ++ toString n : String) → vx_Note p l e R s m args below meth c H locs cells slots Q (F0 m pc ls rest) "java/lang/ArrayIndexOutOfBoundsException" tx) : W p l e R s m args below meth c H locs cells slots Q (F0 m pc ls (.int x :: .int i :: .ref a :: rest)) := by
  intro T hT X
  obtain ⟨t, st, q⟩ := k _ rfl T hT X
  refine ⟨t, ?_, q⟩
  have h1 := X.iastoreOut hexec (by rw [hT]; exact hP q0 _ ha) ((hK.2 t0 _ ht).1 n (fun j => .int (f j))) (j := i) (by show (i < 0 ∨ (arrV _ _ _).slots.size ≤ _); rw [arrV_size]; exact Classical.byContradiction hout) (g := F0 m pc ls (.int x :: .int i :: .ref a :: rest)) rfl (rest := rest) rfl (by rw [hb]; exact hdg) t
  simp only [arrV_size] at h1
  exact h1 st
theorem vx_baldZ {D : va_G} {cl : List vw_C} {ws : va_W} {tys : List (ClassId × FieldType)} {a : Nat} (hexec : p.tables.exec = Jvm.exec) (hb : c.code = cc) (hK : va_K D cl tys s) (hP : va_P D cl ws H) (q0 t0 : Nat) {cA : ClassId} {n : Nat} {f : Nat → Int32} (ha : ws[q0]? = some (a, .inl (cA, n, .inl f))) (ht : tys[t0]? = some (cA, .byte)) {i : Int32} (hout : ¬ vp_in i n) (hdg : decode cc pc = .ok (.baload, 1))
    (k : ∀ tx : String, tx = (toString "Index " ++ toString i ++ toString " out of bounds for length " ++ toString n : String) → vx_Note p l e R s m args below meth c H locs cells slots Q (F0 m pc ls rest) "java/lang/ArrayIndexOutOfBoundsException" tx) : W p l e R s m args below meth c H locs cells slots Q (F0 m pc ls (.int i :: .ref a :: rest)) := by
  intro T hT X
  obtain ⟨t, st, q⟩ := k _ rfl T hT X
  refine ⟨t, ?_, q⟩
  have h1 := X.baloadOut hexec (by rw [hT]; exact hP q0 _ ha) ((hK.2 t0 _ ht).1 n (fun j => .int (f j))) (j := i) (by show (i < 0 ∨ (arrV _ _ _).slots.size ≤ _); rw [arrV_size]; exact Classical.byContradiction hout) (g := F0 m pc ls (.int i :: .ref a :: rest)) rfl (rest := rest) rfl (by rw [hb]; exact hdg) t
  simp only [arrV_size] at h1
  exact h1 st
theorem vx_bastZ {D : va_G} {cl : List vw_C} {ws : va_W} {tys : List (ClassId × FieldType)} {a : Nat} (hexec : p.tables.exec = Jvm.exec) (hb : c.code = cc) (hK : va_K D cl tys s) (hP : va_P D cl ws H) (q0 t0 : Nat) {cA : ClassId} {n : Nat} {f : Nat → Int32} (ha : ws[q0]? = some (a, .inl (cA, n, .inl f))) (ht : tys[t0]? = some (cA, .byte)) {i : Int32} {x : Int32} (hout : ¬ vp_in i n) (hdg : decode cc pc = .ok (.bastore, 1))
    (k : ∀ tx : String, tx = (toString "Index " ++ toString i ++ toString " out of bounds for length " ++ toString n : String) → vx_Note p l e R s m args below meth c H locs cells slots Q (F0 m pc ls rest) "java/lang/ArrayIndexOutOfBoundsException" tx) : W p l e R s m args below meth c H locs cells slots Q (F0 m pc ls (.int x :: .int i :: .ref a :: rest)) := by
  intro T hT X
  obtain ⟨t, st, q⟩ := k _ rfl T hT X
  refine ⟨t, ?_, q⟩
  have h1 := X.bastoreOut hexec (by rw [hT]; exact hP q0 _ ha) ((hK.2 t0 _ ht).1 n (fun j => .int (f j))) (j := i) (by show (i < 0 ∨ (arrV _ _ _).slots.size ≤ _); rw [arrV_size]; exact Classical.byContradiction hout) (g := F0 m pc ls (.int x :: .int i :: .ref a :: rest)) rfl (rest := rest) rfl (by rw [hb]; exact hdg) t
  simp only [arrV_size] at h1
  exact h1 st
theorem vx_zaldZ {D : va_G} {cl : List vw_C} {ws : va_W} {tys : List (ClassId × FieldType)} {a : Nat} (hexec : p.tables.exec = Jvm.exec) (hb : c.code = cc) (hK : va_K D cl tys s) (hP : va_P D cl ws H) (q0 t0 : Nat) {cA : ClassId} {n : Nat} {f : Nat → Int32} (ha : ws[q0]? = some (a, .inl (cA, n, .inl f))) (ht : tys[t0]? = some (cA, .boolean)) {i : Int32} (hout : ¬ vp_in i n) (hdg : decode cc pc = .ok (.baload, 1))
    (k : ∀ tx : String, tx = (toString "Index " ++ toString i ++ toString " out of bounds for length " ++ toString n : String) → vx_Note p l e R s m args below meth c H locs cells slots Q (F0 m pc ls rest) "java/lang/ArrayIndexOutOfBoundsException" tx) : W p l e R s m args below meth c H locs cells slots Q (F0 m pc ls (.int i :: .ref a :: rest)) := by
  intro T hT X
  obtain ⟨t, st, q⟩ := k _ rfl T hT X
  refine ⟨t, ?_, q⟩
  have h1 := X.baloadOut hexec (by rw [hT]; exact hP q0 _ ha) ((hK.2 t0 _ ht).1 n (fun j => .int (f j))) (j := i) (by show (i < 0 ∨ (arrV _ _ _).slots.size ≤ _); rw [arrV_size]; exact Classical.byContradiction hout) (g := F0 m pc ls (.int i :: .ref a :: rest)) rfl (rest := rest) rfl (by rw [hb]; exact hdg) t
  simp only [arrV_size] at h1
  exact h1 st
theorem vx_zastZ {D : va_G} {cl : List vw_C} {ws : va_W} {tys : List (ClassId × FieldType)} {a : Nat} (hexec : p.tables.exec = Jvm.exec) (hb : c.code = cc) (hK : va_K D cl tys s) (hP : va_P D cl ws H) (q0 t0 : Nat) {cA : ClassId} {n : Nat} {f : Nat → Int32} (ha : ws[q0]? = some (a, .inl (cA, n, .inl f))) (ht : tys[t0]? = some (cA, .boolean)) {i : Int32} {x : Int32} (hout : ¬ vp_in i n) (hdg : decode cc pc = .ok (.bastore, 1))
    (k : ∀ tx : String, tx = (toString "Index " ++ toString i ++ toString " out of bounds for length " ++ toString n : String) → vx_Note p l e R s m args below meth c H locs cells slots Q (F0 m pc ls rest) "java/lang/ArrayIndexOutOfBoundsException" tx) : W p l e R s m args below meth c H locs cells slots Q (F0 m pc ls (.int x :: .int i :: .ref a :: rest)) := by
  intro T hT X
  obtain ⟨t, st, q⟩ := k _ rfl T hT X
  refine ⟨t, ?_, q⟩
  have h1 := X.bastoreOut hexec (by rw [hT]; exact hP q0 _ ha) ((hK.2 t0 _ ht).1 n (fun j => .int (f j))) (j := i) (by show (i < 0 ∨ (arrV _ _ _).slots.size ≤ _); rw [arrV_size]; exact Classical.byContradiction hout) (g := F0 m pc ls (.int x :: .int i :: .ref a :: rest)) rfl (rest := rest) rfl (by rw [hb]; exact hdg) t
  simp only [arrV_size] at h1
  exact h1 st
theorem vx_caldZ {D : va_G} {cl : List vw_C} {ws : va_W} {tys : List (ClassId × FieldType)} {a : Nat} (hexec : p.tables.exec = Jvm.exec) (hb : c.code = cc) (hK : va_K D cl tys s) (hP : va_P D cl ws H) (q0 t0 : Nat) {cA : ClassId} {n : Nat} {f : Nat → Int32} (ha : ws[q0]? = some (a, .inl (cA, n, .inl f))) (ht : tys[t0]? = some (cA, .char)) {i : Int32} (hout : ¬ vp_in i n) (hdg : decode cc pc = .ok (.caload, 1))
    (k : ∀ tx : String, tx = (toString "Index " ++ toString i ++ toString " out of bounds for length " ++ toString n : String) → vx_Note p l e R s m args below meth c H locs cells slots Q (F0 m pc ls rest) "java/lang/ArrayIndexOutOfBoundsException" tx) : W p l e R s m args below meth c H locs cells slots Q (F0 m pc ls (.int i :: .ref a :: rest)) := by
  intro T hT X
  obtain ⟨t, st, q⟩ := k _ rfl T hT X
  refine ⟨t, ?_, q⟩
  have h1 := X.caloadOut hexec (by rw [hT]; exact hP q0 _ ha) ((hK.2 t0 _ ht).1 n (fun j => .int (f j))) (j := i) (by show (i < 0 ∨ (arrV _ _ _).slots.size ≤ _); rw [arrV_size]; exact Classical.byContradiction hout) (g := F0 m pc ls (.int i :: .ref a :: rest)) rfl (rest := rest) rfl (by rw [hb]; exact hdg) t
  simp only [arrV_size] at h1
  exact h1 st
theorem vx_castZ {D : va_G} {cl : List vw_C} {ws : va_W} {tys : List (ClassId × FieldType)} {a : Nat} (hexec : p.tables.exec = Jvm.exec) (hb : c.code = cc) (hK : va_K D cl tys s) (hP : va_P D cl ws H) (q0 t0 : Nat) {cA : ClassId} {n : Nat} {f : Nat → Int32} (ha : ws[q0]? = some (a, .inl (cA, n, .inl f))) (ht : tys[t0]? = some (cA, .char)) {i : Int32} {x : Int32} (hout : ¬ vp_in i n) (hdg : decode cc pc = .ok (.castore, 1))
    (k : ∀ tx : String, tx = (toString "Index " ++ toString i ++ toString " out of bounds for length " ++ toString n : String) → vx_Note p l e R s m args below meth c H locs cells slots Q (F0 m pc ls rest) "java/lang/ArrayIndexOutOfBoundsException" tx) : W p l e R s m args below meth c H locs cells slots Q (F0 m pc ls (.int x :: .int i :: .ref a :: rest)) := by
  intro T hT X
  obtain ⟨t, st, q⟩ := k _ rfl T hT X
  refine ⟨t, ?_, q⟩
  have h1 := X.castoreOut hexec (by rw [hT]; exact hP q0 _ ha) ((hK.2 t0 _ ht).1 n (fun j => .int (f j))) (j := i) (by show (i < 0 ∨ (arrV _ _ _).slots.size ≤ _); rw [arrV_size]; exact Classical.byContradiction hout) (g := F0 m pc ls (.int x :: .int i :: .ref a :: rest)) rfl (rest := rest) rfl (by rw [hb]; exact hdg) t
  simp only [arrV_size] at h1
  exact h1 st
theorem vx_saldZ {D : va_G} {cl : List vw_C} {ws : va_W} {tys : List (ClassId × FieldType)} {a : Nat} (hexec : p.tables.exec = Jvm.exec) (hb : c.code = cc) (hK : va_K D cl tys s) (hP : va_P D cl ws H) (q0 t0 : Nat) {cA : ClassId} {n : Nat} {f : Nat → Int32} (ha : ws[q0]? = some (a, .inl (cA, n, .inl f))) (ht : tys[t0]? = some (cA, .short)) {i : Int32} (hout : ¬ vp_in i n) (hdg : decode cc pc = .ok (.saload, 1))
    (k : ∀ tx : String, tx = (toString "Index " ++ toString i ++ toString " out of bounds for length " ++ toString n : String) → vx_Note p l e R s m args below meth c H locs cells slots Q (F0 m pc ls rest) "java/lang/ArrayIndexOutOfBoundsException" tx) : W p l e R s m args below meth c H locs cells slots Q (F0 m pc ls (.int i :: .ref a :: rest)) := by
  intro T hT X
  obtain ⟨t, st, q⟩ := k _ rfl T hT X
  refine ⟨t, ?_, q⟩
  have h1 := X.saloadOut hexec (by rw [hT]; exact hP q0 _ ha) ((hK.2 t0 _ ht).1 n (fun j => .int (f j))) (j := i) (by show (i < 0 ∨ (arrV _ _ _).slots.size ≤ _); rw [arrV_size]; exact Classical.byContradiction hout) (g := F0 m pc ls (.int i :: .ref a :: rest)) rfl (rest := rest) rfl (by rw [hb]; exact hdg) t
  simp only [arrV_size] at h1
  exact h1 st
theorem vx_sastZ {D : va_G} {cl : List vw_C} {ws : va_W} {tys : List (ClassId × FieldType)} {a : Nat} (hexec : p.tables.exec = Jvm.exec) (hb : c.code = cc) (hK : va_K D cl tys s) (hP : va_P D cl ws H) (q0 t0 : Nat) {cA : ClassId} {n : Nat} {f : Nat → Int32} (ha : ws[q0]? = some (a, .inl (cA, n, .inl f))) (ht : tys[t0]? = some (cA, .short)) {i : Int32} {x : Int32} (hout : ¬ vp_in i n) (hdg : decode cc pc = .ok (.sastore, 1))
    (k : ∀ tx : String, tx = (toString "Index " ++ toString i ++ toString " out of bounds for length " ++ toString n : String) → vx_Note p l e R s m args below meth c H locs cells slots Q (F0 m pc ls rest) "java/lang/ArrayIndexOutOfBoundsException" tx) : W p l e R s m args below meth c H locs cells slots Q (F0 m pc ls (.int x :: .int i :: .ref a :: rest)) := by
  intro T hT X
  obtain ⟨t, st, q⟩ := k _ rfl T hT X
  refine ⟨t, ?_, q⟩
  have h1 := X.sastoreOut hexec (by rw [hT]; exact hP q0 _ ha) ((hK.2 t0 _ ht).1 n (fun j => .int (f j))) (j := i) (by show (i < 0 ∨ (arrV _ _ _).slots.size ≤ _); rw [arrV_size]; exact Classical.byContradiction hout) (g := F0 m pc ls (.int x :: .int i :: .ref a :: rest)) rfl (rest := rest) rfl (by rw [hb]; exact hdg) t
  simp only [arrV_size] at h1
  exact h1 st
theorem vx_laldZ {D : va_G} {cl : List vw_C} {ws : va_W} {tys : List (ClassId × FieldType)} {a : Nat} (hexec : p.tables.exec = Jvm.exec) (hb : c.code = cc) (hK : va_K D cl tys s) (hP : va_P D cl ws H) (q0 t0 : Nat) {cA : ClassId} {n : Nat} {f : Nat → Int64} (ha : ws[q0]? = some (a, .inl (cA, n, .inr (.inl f)))) (ht : tys[t0]? = some (cA, .long)) {i : Int32} (hout : ¬ vp_in i n) (hdg : decode cc pc = .ok (.laload, 1))
    (k : ∀ tx : String, tx = (toString "Index " ++ toString i ++ toString " out of bounds for length " ++ toString n : String) → vx_Note p l e R s m args below meth c H locs cells slots Q (F0 m pc ls rest) "java/lang/ArrayIndexOutOfBoundsException" tx) : W p l e R s m args below meth c H locs cells slots Q (F0 m pc ls (.int i :: .ref a :: rest)) := by
  intro T hT X
  obtain ⟨t, st, q⟩ := k _ rfl T hT X
  refine ⟨t, ?_, q⟩
  have h1 := X.laloadOut hexec (by rw [hT]; exact hP q0 _ ha) ((hK.2 t0 _ ht).1 n (fun j => .long (f j))) (j := i) (by show (i < 0 ∨ (arrV _ _ _).slots.size ≤ _); rw [arrV_size]; exact Classical.byContradiction hout) (g := F0 m pc ls (.int i :: .ref a :: rest)) rfl (rest := rest) rfl (by rw [hb]; exact hdg) t
  simp only [arrV_size] at h1
  exact h1 st
theorem vx_lastZ {D : va_G} {cl : List vw_C} {ws : va_W} {tys : List (ClassId × FieldType)} {a : Nat} (hexec : p.tables.exec = Jvm.exec) (hb : c.code = cc) (hK : va_K D cl tys s) (hP : va_P D cl ws H) (q0 t0 : Nat) {cA : ClassId} {n : Nat} {f : Nat → Int64} (ha : ws[q0]? = some (a, .inl (cA, n, .inr (.inl f)))) (ht : tys[t0]? = some (cA, .long)) {i : Int32} {x : Int64} (hout : ¬ vp_in i n) (hdg : decode cc pc = .ok (.lastore, 1))
    (k : ∀ tx : String, tx = (toString "Index " ++ toString i ++ toString " out of bounds for length " ++ toString n : String) → vx_Note p l e R s m args below meth c H locs cells slots Q (F0 m pc ls rest) "java/lang/ArrayIndexOutOfBoundsException" tx) : W p l e R s m args below meth c H locs cells slots Q (F0 m pc ls (.long x :: .int i :: .ref a :: rest)) := by
  intro T hT X
  obtain ⟨t, st, q⟩ := k _ rfl T hT X
  refine ⟨t, ?_, q⟩
  have h1 := X.lastoreOut hexec (by rw [hT]; exact hP q0 _ ha) ((hK.2 t0 _ ht).1 n (fun j => .long (f j))) (j := i) (by show (i < 0 ∨ (arrV _ _ _).slots.size ≤ _); rw [arrV_size]; exact Classical.byContradiction hout) (g := F0 m pc ls (.long x :: .int i :: .ref a :: rest)) rfl (rest := rest) rfl (by rw [hb]; exact hdg) t
  simp only [arrV_size] at h1
  exact h1 st
theorem vx_faldZ {D : va_G} {cl : List vw_C} {ws : va_W} {tys : List (ClassId × FieldType)} {a : Nat} (hexec : p.tables.exec = Jvm.exec) (hb : c.code = cc) (hK : va_K D cl tys s) (hP : va_P D cl ws H) (q0 t0 : Nat) {cA : ClassId} {n : Nat} {f : Nat → UInt32} (ha : ws[q0]? = some (a, .inl (cA, n, .inr (.inr (.inl f))))) (ht : tys[t0]? = some (cA, .float)) {i : Int32} (hout : ¬ vp_in i n) (hdg : decode cc pc = .ok (.faload, 1))
    (k : ∀ tx : String, tx = (toString "Index " ++ toString i ++ toString " out of bounds for length " ++ toString n : String) → vx_Note p l e R s m args below meth c H locs cells slots Q (F0 m pc ls rest) "java/lang/ArrayIndexOutOfBoundsException" tx) : W p l e R s m args below meth c H locs cells slots Q (F0 m pc ls (.int i :: .ref a :: rest)) := by
  intro T hT X
  obtain ⟨t, st, q⟩ := k _ rfl T hT X
  refine ⟨t, ?_, q⟩
  have h1 := X.faloadOut hexec (by rw [hT]; exact hP q0 _ ha) ((hK.2 t0 _ ht).1 n (fun j => .float (f j))) (j := i) (by show (i < 0 ∨ (arrV _ _ _).slots.size ≤ _); rw [arrV_size]; exact Classical.byContradiction hout) (g := F0 m pc ls (.int i :: .ref a :: rest)) rfl (rest := rest) rfl (by rw [hb]; exact hdg) t
  simp only [arrV_size] at h1
  exact h1 st
theorem vx_fastZ {D : va_G} {cl : List vw_C} {ws : va_W} {tys : List (ClassId × FieldType)} {a : Nat} (hexec : p.tables.exec = Jvm.exec) (hb : c.code = cc) (hK : va_K D cl tys s) (hP : va_P D cl ws H) (q0 t0 : Nat) {cA : ClassId} {n : Nat} {f : Nat → UInt32} (ha : ws[q0]? = some (a, .inl (cA, n, .inr (.inr (.inl f))))) (ht : tys[t0]? = some (cA, .float)) {i : Int32} {x : UInt32} (hout : ¬ vp_in i n) (hdg : decode cc pc = .ok (.fastore, 1))
    (k : ∀ tx : String, tx = (toString "Index " ++ toString i ++ toString " out of bounds for length " ++ toString n : String) → vx_Note p l e R s m args below meth c H locs cells slots Q (F0 m pc ls rest) "java/lang/ArrayIndexOutOfBoundsException" tx) : W p l e R s m args below meth c H locs cells slots Q (F0 m pc ls (.float x :: .int i :: .ref a :: rest)) := by
  intro T hT X
  obtain ⟨t, st, q⟩ := k _ rfl T hT X
  refine ⟨t, ?_, q⟩
  have h1 := X.fastoreOut hexec (by rw [hT]; exact hP q0 _ ha) ((hK.2 t0 _ ht).1 n (fun j => .float (f j))) (j := i) (by show (i < 0 ∨ (arrV _ _ _).slots.size ≤ _); rw [arrV_size]; exact Classical.byContradiction hout) (g := F0 m pc ls (.float x :: .int i :: .ref a :: rest)) rfl (rest := rest) rfl (by rw [hb]; exact hdg) t
  simp only [arrV_size] at h1
  exact h1 st
theorem vx_daldZ {D : va_G} {cl : List vw_C} {ws : va_W} {tys : List (ClassId × FieldType)} {a : Nat} (hexec : p.tables.exec = Jvm.exec) (hb : c.code = cc) (hK : va_K D cl tys s) (hP : va_P D cl ws H) (q0 t0 : Nat) {cA : ClassId} {n : Nat} {f : Nat → UInt64} (ha : ws[q0]? = some (a, .inl (cA, n, .inr (.inr (.inr (.inl f)))))) (ht : tys[t0]? = some (cA, .double)) {i : Int32} (hout : ¬ vp_in i n) (hdg : decode cc pc = .ok (.daload, 1))
    (k : ∀ tx : String, tx = (toString "Index " ++ toString i ++ toString " out of bounds for length " ++ toString n : String) → vx_Note p l e R s m args below meth c H locs cells slots Q (F0 m pc ls rest) "java/lang/ArrayIndexOutOfBoundsException" tx) : W p l e R s m args below meth c H locs cells slots Q (F0 m pc ls (.int i :: .ref a :: rest)) := by
  intro T hT X
  obtain ⟨t, st, q⟩ := k _ rfl T hT X
  refine ⟨t, ?_, q⟩
  have h1 := X.daloadOut hexec (by rw [hT]; exact hP q0 _ ha) ((hK.2 t0 _ ht).1 n (fun j => .double (f j))) (j := i) (by show (i < 0 ∨ (arrV _ _ _).slots.size ≤ _); rw [arrV_size]; exact Classical.byContradiction hout) (g := F0 m pc ls (.int i :: .ref a :: rest)) rfl (rest := rest) rfl (by rw [hb]; exact hdg) t
  simp only [arrV_size] at h1
  exact h1 st
theorem vx_dastZ {D : va_G} {cl : List vw_C} {ws : va_W} {tys : List (ClassId × FieldType)} {a : Nat} (hexec : p.tables.exec = Jvm.exec) (hb : c.code = cc) (hK : va_K D cl tys s) (hP : va_P D cl ws H) (q0 t0 : Nat) {cA : ClassId} {n : Nat} {f : Nat → UInt64} (ha : ws[q0]? = some (a, .inl (cA, n, .inr (.inr (.inr (.inl f)))))) (ht : tys[t0]? = some (cA, .double)) {i : Int32} {x : UInt64} (hout : ¬ vp_in i n) (hdg : decode cc pc = .ok (.dastore, 1))
    (k : ∀ tx : String, tx = (toString "Index " ++ toString i ++ toString " out of bounds for length " ++ toString n : String) → vx_Note p l e R s m args below meth c H locs cells slots Q (F0 m pc ls rest) "java/lang/ArrayIndexOutOfBoundsException" tx) : W p l e R s m args below meth c H locs cells slots Q (F0 m pc ls (.double x :: .int i :: .ref a :: rest)) := by
  intro T hT X
  obtain ⟨t, st, q⟩ := k _ rfl T hT X
  refine ⟨t, ?_, q⟩
  have h1 := X.dastoreOut hexec (by rw [hT]; exact hP q0 _ ha) ((hK.2 t0 _ ht).1 n (fun j => .double (f j))) (j := i) (by show (i < 0 ∨ (arrV _ _ _).slots.size ≤ _); rw [arrV_size]; exact Classical.byContradiction hout) (g := F0 m pc ls (.double x :: .int i :: .ref a :: rest)) rfl (rest := rest) rfl (by rw [hb]; exact hdg) t
  simp only [arrV_size] at h1
  exact h1 st
theorem vx_arraylengthN (hexec : p.tables.exec = Jvm.exec) (hb : c.code = cc) (hdg : decode cc pc = .ok (.arraylength, 1)) (k : vx_NoteN p l e R s m args below meth c H locs cells slots Q (F0 m pc ls rest)) : W p l e R s m args below meth c H locs cells slots Q (F0 m pc ls (.null :: rest)) := by
  intro T hT X
  obtain ⟨t, st, q⟩ := k T hT X
  exact ⟨t, X.arraylengthNull hexec (g := F0 m pc ls (.null :: rest)) rfl (rest := rest) rfl (by rw [hb]; exact hdg) t st, q⟩
theorem vx_ialoadN (hexec : p.tables.exec = Jvm.exec) (hb : c.code = cc) {i : Int32} (hdg : decode cc pc = .ok (.iaload, 1)) (k : vx_NoteN p l e R s m args below meth c H locs cells slots Q (F0 m pc ls rest)) : W p l e R s m args below meth c H locs cells slots Q (F0 m pc ls (.int i :: .null :: rest)) := by
  intro T hT X
  obtain ⟨t, st, q⟩ := k T hT X
  exact ⟨t, X.ialoadNull hexec (g := F0 m pc ls (.int i :: .null :: rest)) rfl (rest := rest) rfl (by rw [hb]; exact hdg) t st, q⟩
theorem vx_laloadN (hexec : p.tables.exec = Jvm.exec) (hb : c.code = cc) {i : Int32} (hdg : decode cc pc = .ok (.laload, 1)) (k : vx_NoteN p l e R s m args below meth c H locs cells slots Q (F0 m pc ls rest)) : W p l e R s m args below meth c H locs cells slots Q (F0 m pc ls (.int i :: .null :: rest)) := by
  intro T hT X
  obtain ⟨t, st, q⟩ := k T hT X
  exact ⟨t, X.laloadNull hexec (g := F0 m pc ls (.int i :: .null :: rest)) rfl (rest := rest) rfl (by rw [hb]; exact hdg) t st, q⟩
theorem vx_faloadN (hexec : p.tables.exec = Jvm.exec) (hb : c.code = cc) {i : Int32} (hdg : decode cc pc = .ok (.faload, 1)) (k : vx_NoteN p l e R s m args below meth c H locs cells slots Q (F0 m pc ls rest)) : W p l e R s m args below meth c H locs cells slots Q (F0 m pc ls (.int i :: .null :: rest)) := by
  intro T hT X
  obtain ⟨t, st, q⟩ := k T hT X
  exact ⟨t, X.faloadNull hexec (g := F0 m pc ls (.int i :: .null :: rest)) rfl (rest := rest) rfl (by rw [hb]; exact hdg) t st, q⟩
theorem vx_daloadN (hexec : p.tables.exec = Jvm.exec) (hb : c.code = cc) {i : Int32} (hdg : decode cc pc = .ok (.daload, 1)) (k : vx_NoteN p l e R s m args below meth c H locs cells slots Q (F0 m pc ls rest)) : W p l e R s m args below meth c H locs cells slots Q (F0 m pc ls (.int i :: .null :: rest)) := by
  intro T hT X
  obtain ⟨t, st, q⟩ := k T hT X
  exact ⟨t, X.daloadNull hexec (g := F0 m pc ls (.int i :: .null :: rest)) rfl (rest := rest) rfl (by rw [hb]; exact hdg) t st, q⟩
theorem vx_aaloadN (hexec : p.tables.exec = Jvm.exec) (hb : c.code = cc) {i : Int32} (hdg : decode cc pc = .ok (.aaload, 1)) (k : vx_NoteN p l e R s m args below meth c H locs cells slots Q (F0 m pc ls rest)) : W p l e R s m args below meth c H locs cells slots Q (F0 m pc ls (.int i :: .null :: rest)) := by
  intro T hT X
  obtain ⟨t, st, q⟩ := k T hT X
  exact ⟨t, X.aaloadNull hexec (g := F0 m pc ls (.int i :: .null :: rest)) rfl (rest := rest) rfl (by rw [hb]; exact hdg) t st, q⟩
theorem vx_baloadN (hexec : p.tables.exec = Jvm.exec) (hb : c.code = cc) {i : Int32} (hdg : decode cc pc = .ok (.baload, 1)) (k : vx_NoteN p l e R s m args below meth c H locs cells slots Q (F0 m pc ls rest)) : W p l e R s m args below meth c H locs cells slots Q (F0 m pc ls (.int i :: .null :: rest)) := by
  intro T hT X
  obtain ⟨t, st, q⟩ := k T hT X
  exact ⟨t, X.baloadNull hexec (g := F0 m pc ls (.int i :: .null :: rest)) rfl (rest := rest) rfl (by rw [hb]; exact hdg) t st, q⟩
theorem vx_caloadN (hexec : p.tables.exec = Jvm.exec) (hb : c.code = cc) {i : Int32} (hdg : decode cc pc = .ok (.caload, 1)) (k : vx_NoteN p l e R s m args below meth c H locs cells slots Q (F0 m pc ls rest)) : W p l e R s m args below meth c H locs cells slots Q (F0 m pc ls (.int i :: .null :: rest)) := by
  intro T hT X
  obtain ⟨t, st, q⟩ := k T hT X
  exact ⟨t, X.caloadNull hexec (g := F0 m pc ls (.int i :: .null :: rest)) rfl (rest := rest) rfl (by rw [hb]; exact hdg) t st, q⟩
theorem vx_saloadN (hexec : p.tables.exec = Jvm.exec) (hb : c.code = cc) {i : Int32} (hdg : decode cc pc = .ok (.saload, 1)) (k : vx_NoteN p l e R s m args below meth c H locs cells slots Q (F0 m pc ls rest)) : W p l e R s m args below meth c H locs cells slots Q (F0 m pc ls (.int i :: .null :: rest)) := by
  intro T hT X
  obtain ⟨t, st, q⟩ := k T hT X
  exact ⟨t, X.saloadNull hexec (g := F0 m pc ls (.int i :: .null :: rest)) rfl (rest := rest) rfl (by rw [hb]; exact hdg) t st, q⟩
theorem vx_iastoreN (hexec : p.tables.exec = Jvm.exec) (hb : c.code = cc) {x : Int32} {i : Int32} (hdg : decode cc pc = .ok (.iastore, 1)) (k : vx_NoteN p l e R s m args below meth c H locs cells slots Q (F0 m pc ls rest)) : W p l e R s m args below meth c H locs cells slots Q (F0 m pc ls (.int x :: .int i :: .null :: rest)) := by
  intro T hT X
  obtain ⟨t, st, q⟩ := k T hT X
  exact ⟨t, X.iastoreNull hexec (g := F0 m pc ls (.int x :: .int i :: .null :: rest)) rfl (rest := rest) rfl (by rw [hb]; exact hdg) t st, q⟩
theorem vx_lastoreN (hexec : p.tables.exec = Jvm.exec) (hb : c.code = cc) {x : Int64} {i : Int32} (hdg : decode cc pc = .ok (.lastore, 1)) (k : vx_NoteN p l e R s m args below meth c H locs cells slots Q (F0 m pc ls rest)) : W p l e R s m args below meth c H locs cells slots Q (F0 m pc ls (.long x :: .int i :: .null :: rest)) := by
  intro T hT X
  obtain ⟨t, st, q⟩ := k T hT X
  exact ⟨t, X.lastoreNull hexec (g := F0 m pc ls (.long x :: .int i :: .null :: rest)) rfl (rest := rest) rfl (by rw [hb]; exact hdg) t st, q⟩
theorem vx_fastoreN (hexec : p.tables.exec = Jvm.exec) (hb : c.code = cc) {x : UInt32} {i : Int32} (hdg : decode cc pc = .ok (.fastore, 1)) (k : vx_NoteN p l e R s m args below meth c H locs cells slots Q (F0 m pc ls rest)) : W p l e R s m args below meth c H locs cells slots Q (F0 m pc ls (.float x :: .int i :: .null :: rest)) := by
  intro T hT X
  obtain ⟨t, st, q⟩ := k T hT X
  exact ⟨t, X.fastoreNull hexec (g := F0 m pc ls (.float x :: .int i :: .null :: rest)) rfl (rest := rest) rfl (by rw [hb]; exact hdg) t st, q⟩
theorem vx_dastoreN (hexec : p.tables.exec = Jvm.exec) (hb : c.code = cc) {x : UInt64} {i : Int32} (hdg : decode cc pc = .ok (.dastore, 1)) (k : vx_NoteN p l e R s m args below meth c H locs cells slots Q (F0 m pc ls rest)) : W p l e R s m args below meth c H locs cells slots Q (F0 m pc ls (.double x :: .int i :: .null :: rest)) := by
  intro T hT X
  obtain ⟨t, st, q⟩ := k T hT X
  exact ⟨t, X.dastoreNull hexec (g := F0 m pc ls (.double x :: .int i :: .null :: rest)) rfl (rest := rest) rfl (by rw [hb]; exact hdg) t st, q⟩
theorem vx_bastoreN (hexec : p.tables.exec = Jvm.exec) (hb : c.code = cc) {x : Int32} {i : Int32} (hdg : decode cc pc = .ok (.bastore, 1)) (k : vx_NoteN p l e R s m args below meth c H locs cells slots Q (F0 m pc ls rest)) : W p l e R s m args below meth c H locs cells slots Q (F0 m pc ls (.int x :: .int i :: .null :: rest)) := by
  intro T hT X
  obtain ⟨t, st, q⟩ := k T hT X
  exact ⟨t, X.bastoreNull hexec (g := F0 m pc ls (.int x :: .int i :: .null :: rest)) rfl (rest := rest) rfl (by rw [hb]; exact hdg) t st, q⟩
theorem vx_castoreN (hexec : p.tables.exec = Jvm.exec) (hb : c.code = cc) {x : Int32} {i : Int32} (hdg : decode cc pc = .ok (.castore, 1)) (k : vx_NoteN p l e R s m args below meth c H locs cells slots Q (F0 m pc ls rest)) : W p l e R s m args below meth c H locs cells slots Q (F0 m pc ls (.int x :: .int i :: .null :: rest)) := by
  intro T hT X
  obtain ⟨t, st, q⟩ := k T hT X
  exact ⟨t, X.castoreNull hexec (g := F0 m pc ls (.int x :: .int i :: .null :: rest)) rfl (rest := rest) rfl (by rw [hb]; exact hdg) t st, q⟩
theorem vx_sastoreN (hexec : p.tables.exec = Jvm.exec) (hb : c.code = cc) {x : Int32} {i : Int32} (hdg : decode cc pc = .ok (.sastore, 1)) (k : vx_NoteN p l e R s m args below meth c H locs cells slots Q (F0 m pc ls rest)) : W p l e R s m args below meth c H locs cells slots Q (F0 m pc ls (.int x :: .int i :: .null :: rest)) := by
  intro T hT X
  obtain ⟨t, st, q⟩ := k T hT X
  exact ⟨t, X.sastoreNull hexec (g := F0 m pc ls (.int x :: .int i :: .null :: rest)) rfl (rest := rest) rfl (by rw [hb]; exact hdg) t st, q⟩
theorem vx_invokeN {own C : String} {index maxL : Nat} {y : MethodName} {bytes : ByteArray} {ret : Option FieldType} (hexec : p.tables.exec = Jvm.exec) (hb : c.code = cc) (hown : s.vm.findClass own = some m.cls) (hlink : (Cond.methodLink own index y).before args s = true) (hinst : (Cond.instanceMethod y).before args s = true) (hcode : (Cond.code y bytes maxL ret).before args s = true) (hsel : (Cond.selects C y y).before args s = true)
    (hx : y.cls ≠ "java/lang/invoke/MethodHandle" ∧ y.cls ≠ "java/lang/invoke/VarHandle") {As : List Value} (hlen : (parseMethodDescriptor y.desc).map (fun d => d.parameters.length) = some As.length) (hdg : decode cc pc = .ok (.invokevirtual index, 3))
    (k : vx_NoteN p l e R s m args below meth c H locs cells slots Q (F0 m pc ls rest)) {st0 : List Value} (hst : st0 = As.reverse ++ .null :: rest) : W p l e R s m args below meth c H locs cells slots Q (F0 m pc ls st0) := by
  intro T hT X
  obtain ⟨r0, r, hn, hrm, hstR, hsigR⟩ := va_Decl.of hinst hcode
  obtain ⟨c2, r2, m2, q1, q2, q3, q4, kP, hkP, hkPi⟩ := Cond.selects_spec hsel
  cases hn.symm.trans q3
  have hl9 : As.length = r.sig.parameters.length := by
    rw [hsigR] at hlen
    exact (Option.some.inj hlen).symm
  obtain ⟨vm', X1, st1⟩ := X.invokevirtualNull hexec hown hlink hn hrm hstR hkP hkPi hx (g := F0 m pc ls st0) rfl (argsL := As) (rest := rest) hl9 hst (by rw [hb]; exact hdg)
  obtain ⟨t, st, q⟩ := k (T.setVm vm') hT X1
  exact ⟨t, st1 t st, q⟩
theorem vx_newarrayZ {atype : ArrayType} (hexec : p.tables.exec = Jvm.exec) (hb : c.code = cc) {n : Int32} (h0 : n < 0) (hdg : decode cc pc = .ok (.newarray atype, 2)) (k : ∀ tx : String, tx = toString n → vx_Note p l e R s m args below meth c H locs cells slots Q (F0 m pc ls rest) "java/lang/NegativeArraySizeException" tx) : W p l e R s m args below meth c H locs cells slots Q (F0 m pc ls (.int n :: rest)) := by
  intro T hT X
  obtain ⟨t, st, q⟩ := k _ rfl T hT X
  exact ⟨t, X.newarrayNegative hexec (g := F0 m pc ls (.int n :: rest)) rfl h0 (rest := rest) rfl (by rw [hb]; exact hdg) t st, q⟩
end
end VXM
/-! ===== END ===== -/
/-! ===== BEGIN an exception as an object: made, kept, thrown later (no traces kept) ===== -/
section VXK
variable {p : Program} {l : Launch} {e : Env} {R : Room} {s : State} {m₀ : MethodId} {args : Array Value} {below : List Frame} {meth : Method} {c : Code} {W : State} {locs : List Loc} {cells slots : Nat}
set_option maxHeartbeats 1000000 in
theorem vx_ctorMadeS (X : Stand p l e R s m₀ args below meth c W locs cells slots) (hexec : p.tables.exec = Jvm.exec) (htr : e.platform.stackTraces = false) {own cls : String} {names : List String} {ic : Nat}
    (hown : s.vm.findClass own = some m₀.cls) (hcls : Bundle.fit cls = true) (hnames : ∀ n ∈ names, Bundle.fit n = true)
    (h : ∀ a ∈ Bundle.ownAtoms own ic cls names, a.before args s = true)
    (hlocs : ∀ x ∈ locs, ∀ cell, s.heap[x.base]? = some cell → cell.vm.isStatics = false)
    {a : Addr} {cX : ClassId} {kX : Class} (hfoundX : s.vm.findClass cls = some cX) (hkX : s.vm.classes[cX]? = some kX) (hcell : W.heap[a]? = some (freshCell cX kX)) (hnew : s.heap.size ≤ a)
    {msg : Value} (hmsg : msg.isRef = true)
    {g : JFrame} (hg : g.method = m₀) (hsize : g.locals.size = c.maxLocals) {rest : List Value} (hstack : g.stack = msg :: .ref a :: .ref a :: rest)
    (hd6 : decode c.code g.pc = .ok (.invokespecial ic, 3))
    (hRframes : names.length + 3 < R.frames) (hRlocals : 2 * g.monitorRoom + ((Value.ref a :: rest).map fun v => v.category).sum + (13 * (names.length + 1) + 42) ≤ R.locals) :
    ∃ (V : State) (ce : Cell) (L : List Loc), Stand p l e R s m₀ args below meth c (V.setCell a ce) (locs ++ L) cells slots ∧ (∀ y ∈ L, y.base = a) ∧ a < V.heap.size ∧ ce.cls = cX ∧ ce.vm = .none ∧
      ∀ target, Steps p.tables e below ((V.setCell a ce).setTop { g with stack := .ref a :: rest, pc := g.pc + 3 }) target → Steps p.tables e below (W.setTop g) target := by
  have howns : e.platform.frameOwnsMonitors = true := by rw [X.admits.platform]
  have hfin : e.platform.finalization = false := by rw [X.admits.platform]
  have hpl : e.platform.magicAccessors = ({} : Platform).magicAccessors := by rw [X.admits.platform]
  have a' : ∀ x, x ∈ Bundle.ownAtoms own ic cls names → x.holds args s none s [] = true := fun x hx => h x hx
  obtain ⟨T, Z0, L, -, Y⟩ := ThrowableC.of_atoms (args := args) howns hfin hpl (fun x hx => h x (by simp [Bundle.ownAtoms, hx]))
  obtain ⟨Z, M, LZ, LM, hnZ⟩ := Init0T.ofS_atoms (args := args) hpl L Y (fun x hx => h x (by simp [Bundle.ownAtoms, hx]))
  obtain ⟨P1, Ps, hlen, L1, hL, hP1m, hlink1, hlink⟩ := Bundle.chainS (args := args) hpl hnZ names cls hcls hnames (fun x hx => h x (by simp [Bundle.ownAtoms, hx]))
  have hfound : s.vm.findClass cls = some P1.m.cls := findClass_of_methodNamed hP1m
  cases Option.some.inj (hfoundX.symm.trans hfound)
  obtain ⟨c1, kX', hc1, hk, hord, -, -, hn6⟩ := Cond.instantiable_spec (a' (.instantiable cls 6) (by simp [Bundle.ownAtoms]))
  cases Option.some.inj (hc1.symm.trans hfound)
  cases Option.some.inj (hkX.symm.trans hk)
  have hsel0 : selectMethod e.platform s.vm P1.m.cls T.fill0 = .method T.fill0 := by
    obtain ⟨c2, r2, m2, q1, q2, q3, q4, -⟩ := Cond.selects_spec (a' (.selects cls Bundle.tFill0 Bundle.tFill0) (by simp [Bundle.ownAtoms]))
    cases Option.some.inj (q1.symm.trans hfound)
    cases Option.some.inj (q2.symm.trans (State.methodFound?_of_named Y.fill0 (by decide)))
    cases Option.some.inj (q3.symm.trans Y.fill0)
    rw [Launch.admits_selectMethod X.admits]; exact q4
  have hselF : selectMethod e.platform s.vm P1.m.cls T.fill = .method T.fill := by
    obtain ⟨c2, r2, m2, q1, q2, q3, q4, -⟩ := Cond.selects_spec (a' (.selects cls Bundle.tFill Bundle.tFill) (by simp [Bundle.ownAtoms]))
    cases Option.some.inj (q1.symm.trans hfound)
    cases Option.some.inj (q2.symm.trans (State.methodFound?_of_named Y.fill (by decide)))
    cases Option.some.inj (q3.symm.trans Y.fill)
    rw [Launch.admits_selectMethod X.admits]; exact q4
  obtain ⟨cellS0, hcS0, hiss⟩ := Y.statics
  obtain ⟨u0, hu0⟩ := Cond.staticRefV Y.unassigned L.unassignedStatic L.statics hcS0 hiss (a' (.isRef (.static Bundle.tN "UNASSIGNED_STACK" Bundle.steD)) (by simp [Bundle.ownAtoms]))
  obtain ⟨sen, hsen⟩ := Cond.staticRefV Y.sentinel L.sentinelStatic L.statics hcS0 hiss (a' (.isRef (.static Bundle.tN "SUPPRESSED_SENTINEL" Bundle.listD)) (by simp [Bundle.ownAtoms]))
  obtain ⟨ci198, i198, fB, hk198, hg198, ha198, hsB, -, hnB, htB, hffB⟩ := Cond.ownField (t := .object "java/lang/Object") Y.found L.cls (by decide +kernel) (a' (.fieldLink Bundle.tN 198 Bundle.tN "backtrace" "Ljava/lang/Object;") (by simp [Bundle.ownAtoms])) (a' (.lays Bundle.tN Bundle.tN "backtrace" "Ljava/lang/Object;") (by simp [Bundle.ownAtoms])) e.platform hpl
  obtain ⟨cellS, hcS', heS, -, hkeep⟩ := X.same.2.2.2.2.2 T.aS cellS0 hcS0
  have hcellS : W.heap[T.aS]? = some cellS := hcS'
  have hout' : ∀ i, (⟨T.aS, i⟩ : Loc) ∉ locs := fun i hmem => by
    have := hlocs _ hmem cellS0 hcS0
    rw [hiss] at this; cases this
  have hknownS : cellS.vm ≠ .unknown := by
    rw [heS]; intro hu
    rw [show cellS0.vm = .unknown from hu] at hiss
    cases hiss
  have hneS : T.aS ≠ a := Nat.ne_of_lt (Nat.lt_of_lt_of_le (Array.getElem?_eq_some_iff.mp hcS0).1 hnew)
  obtain ⟨iM, hffM⟩ := Y.msg
  obtain ⟨tyC, dC, hdC, hdnC⟩ := Cond.laysAt hfound hk Y.cause (a' (.lays cls Bundle.tN "cause" "Ljava/lang/Throwable;") (by simp [Bundle.ownAtoms]))
  obtain ⟨tyS, dS, hdS, hdnS⟩ := Cond.laysAt hfound hk Y.stack (a' (.lays cls Bundle.tN "stackTrace" Bundle.steD) (by simp [Bundle.ownAtoms]))
  obtain ⟨tyP, dP, hdP, hdnP⟩ := Cond.laysAt hfound hk Y.supp (a' (.lays cls Bundle.tN "suppressedExceptions" Bundle.listD) (by simp [Bundle.ownAtoms]))
  obtain ⟨tyM, dM, hdM, hdnM⟩ := Cond.laysAt hfound hk hffM (a' (.lays cls Bundle.tN "detailMessage" "Ljava/lang/String;") (by simp [Bundle.ownAtoms]))
  obtain ⟨tyB, dB, hdB, hdnB⟩ := Cond.laysAt hfound hk hffB (a' (.lays cls Bundle.tN "backtrace" "Ljava/lang/Object;") (by simp [Bundle.ownAtoms]))
  have bC := Cond.laysApart hdB hdC hdnB hdnC (by rw [hnB, Y.causeName]; decide)
  have bS := Cond.laysApart hdB hdS hdnB hdnS (by rw [hnB, Y.stackName]; decide)
  have bP := Cond.laysApart hdB hdP hdnB hdnP (by rw [hnB, Y.suppName]; decide)
  have hskip : SkipFacts T e.platform s (fun u => u) u0 ((preparedCellV T.toThrowableT (freshCell P1.m.cls kX) a u0 sen).withEntry W.cur) :=
    ⟨{ ci198 := ci198, i198 := i198, fBack := fB }, ⟨hk198, hg198, ha198, hsB⟩, by
      have := fresh_default (c := P1.m.cls) tyB
      rw [htB] at this
      simpa [preparedCellV, Cell.setSlot, Cell.withEntry, Array.getElem?_setIfInBounds, bC, bS, bP, bC.symm, bS.symm, bP.symm, defaultValue] using this, fun _ _ => rfl⟩
  obtain ⟨tm, methC, cdC, kC, vm₁, hnC, -, -, -, -, -, -, -, hW₁, st1⟩ := Steps.initColdS (tb := p.tables) (e := e) (below := below) (s := s) (U := W) X.here hexec X.warmed hpl hown (t := Bundle.initS cls) rfl rfl (Bundle.fit_spec hcls).2
    (a' (.methodLink own ic (Bundle.initS cls)) (by simp [Bundle.ownAtoms])) (h (.instanceMethod (Bundle.initS cls)) (by cases names <;> simp [Bundle.ownAtoms, Bundle.chainSAtoms, Bundle.passSAtoms])) (bytes := Bundle.six) (maxL := 2) (h (.code (Bundle.initS cls) Bundle.six 2 none) (by cases names <;> simp [Bundle.ownAtoms, Bundle.chainSAtoms, Bundle.passSAtoms]))
    (f := g) hg (a := a) (msg := msg) (rest := .ref a :: rest) hstack hd6
  cases Option.some.inj (hnC.symm.trans hP1m)
  have X₁ := X.noted hW₁
  obtain ⟨vm₂, X₂, st2⟩ := X₁.ctorMessageOffV hexec (g := { g with stack := .ref a :: rest }) hg hsize T L Z LZ M LM (P1 :: Ps)
    (fun P hP => by rcases List.mem_cons.mp hP with rfl | hP; exact L1; exact hL P hP) ⟨hlink1, hlink⟩ (u0 := u0) (sen := sen) (self := a) hmsg (cell := freshCell P1.m.cls kX) (cellS := cellS)
    hcell (fun _ => by simp) (by simp) rfl rfl hsel0 hselF hcellS hneS hknownS (by rw [hkeep _ (hout' _)]; exact hu0) (by rw [hkeep _ (hout' _)]; exact hsen)
    (Takes.of_laid hk hord tyC (by rw [Y.causeType]; rfl)) (Takes.of_laid hk hord tyS (by rw [Y.stackType]; exact fits_refV_array _ u0)) (Takes.of_laid hk hord tyP (by rw [Y.suppType]; exact fits_refV_object _ sen))
    (Takes.of_laid hk hord tyM (by rw [Y.msgType]; exact fits_refV_object _ ⟨msg, hmsg⟩)) Y.objLocals hskip htr [] hd6
    (by simp only [List.length_cons, hlen]; omega) (by simp only [List.length_cons, hlen]; exact hRlocals)
  have hlt : a < ((W.setVm vm₁).setVm vm₂).heap.size := (Array.getElem?_eq_some_iff.mp hcell).1
  refine ⟨(W.setVm vm₁).setVm vm₂, _, _, X₂, fun y hy => ?_, hlt, rfl, rfl, fun target hwalk => st1 _ (fun acts => ?_)⟩
  · simp only [List.mem_cons, List.not_mem_nil, or_false] at hy
    rcases hy with rfl | rfl | rfl | rfl | rfl <;> rfl
  · rw [doInvoke_state]
    exact st2 _ hwalk
set_option maxHeartbeats 1000000 in
theorem vx_ctorMade0 (X : Stand p l e R s m₀ args below meth c W locs cells slots) (hexec : p.tables.exec = Jvm.exec) (htr : e.platform.stackTraces = false) {own cls : String} {names : List String} {ic : Nat}
    (hown : s.vm.findClass own = some m₀.cls) (hcls : Bundle.fit cls = true) (hnames : ∀ n ∈ names, Bundle.fit n = true)
    (h : ∀ a ∈ Bundle.ownAtoms0 own ic cls names, a.before args s = true)
    (hlocs : ∀ x ∈ locs, ∀ cell, s.heap[x.base]? = some cell → cell.vm.isStatics = false)
    {a : Addr} {cX : ClassId} {kX : Class} (hfoundX : s.vm.findClass cls = some cX) (hkX : s.vm.classes[cX]? = some kX) (hcell : W.heap[a]? = some (freshCell cX kX)) (hnew : s.heap.size ≤ a)
    {g : JFrame} (hg : g.method = m₀) (hsize : g.locals.size = c.maxLocals) {rest : List Value} (hstack : g.stack = .ref a :: .ref a :: rest)
    (hd6 : decode c.code g.pc = .ok (.invokespecial ic, 3))
    (hRframes : names.length + 3 < R.frames) (hRlocals : 2 * g.monitorRoom + ((Value.ref a :: rest).map fun v => v.category).sum + (13 * (names.length + 1) + 41) ≤ R.locals) :
    ∃ (V : State) (ce : Cell) (L : List Loc), Stand p l e R s m₀ args below meth c (V.setCell a ce) (locs ++ L) cells slots ∧ (∀ y ∈ L, y.base = a) ∧ a < V.heap.size ∧ ce.cls = cX ∧ ce.vm = .none ∧
      ∀ target, Steps p.tables e below ((V.setCell a ce).setTop { g with stack := .ref a :: rest, pc := g.pc + 3 }) target → Steps p.tables e below (W.setTop g) target := by
  have howns : e.platform.frameOwnsMonitors = true := by rw [X.admits.platform]
  have hfin : e.platform.finalization = false := by rw [X.admits.platform]
  have hpl : e.platform.magicAccessors = ({} : Platform).magicAccessors := by rw [X.admits.platform]
  have a' : ∀ x, x ∈ Bundle.ownAtoms0 own ic cls names → x.holds args s none s [] = true := fun x hx => h x hx
  obtain ⟨T, Z, L, LZ, Y⟩ := ThrowableC.of_atoms (args := args) howns hfin hpl (fun x hx => h x (by simp [Bundle.ownAtoms0, hx]))
  obtain ⟨P1, Ps, hlen, L1, hL, hP1m, hlink1, hlink⟩ := Bundle.chain0 (args := args) hpl Y.init0 names cls hcls hnames (fun x hx => h x (by simp [Bundle.ownAtoms0, hx]))
  have hfound : s.vm.findClass cls = some P1.m.cls := findClass_of_methodNamed hP1m
  cases Option.some.inj (hfoundX.symm.trans hfound)
  obtain ⟨c1, kX', hc1, hk, hord, -, -, hn6⟩ := Cond.instantiable_spec (a' (.instantiable cls 6) (by simp [Bundle.ownAtoms0]))
  cases Option.some.inj (hc1.symm.trans hfound)
  cases Option.some.inj (hkX.symm.trans hk)
  have hsel0 : selectMethod e.platform s.vm P1.m.cls T.fill0 = .method T.fill0 := by
    obtain ⟨c2, r2, m2, q1, q2, q3, q4, -⟩ := Cond.selects_spec (a' (.selects cls Bundle.tFill0 Bundle.tFill0) (by simp [Bundle.ownAtoms0]))
    cases Option.some.inj (q1.symm.trans hfound)
    cases Option.some.inj (q2.symm.trans (State.methodFound?_of_named Y.fill0 (by decide)))
    cases Option.some.inj (q3.symm.trans Y.fill0)
    rw [Launch.admits_selectMethod X.admits]; exact q4
  have hselF : selectMethod e.platform s.vm P1.m.cls T.fill = .method T.fill := by
    obtain ⟨c2, r2, m2, q1, q2, q3, q4, -⟩ := Cond.selects_spec (a' (.selects cls Bundle.tFill Bundle.tFill) (by simp [Bundle.ownAtoms0]))
    cases Option.some.inj (q1.symm.trans hfound)
    cases Option.some.inj (q2.symm.trans (State.methodFound?_of_named Y.fill (by decide)))
    cases Option.some.inj (q3.symm.trans Y.fill)
    rw [Launch.admits_selectMethod X.admits]; exact q4
  obtain ⟨cellS0, hcS0, hiss⟩ := Y.statics
  obtain ⟨u0, hu0⟩ := Cond.staticRefV Y.unassigned L.unassignedStatic L.statics hcS0 hiss (a' (.isRef (.static Bundle.tN "UNASSIGNED_STACK" Bundle.steD)) (by simp [Bundle.ownAtoms0]))
  obtain ⟨sen, hsen⟩ := Cond.staticRefV Y.sentinel L.sentinelStatic L.statics hcS0 hiss (a' (.isRef (.static Bundle.tN "SUPPRESSED_SENTINEL" Bundle.listD)) (by simp [Bundle.ownAtoms0]))
  obtain ⟨ci198, i198, fB, hk198, hg198, ha198, hsB, -, hnB, htB, hffB⟩ := Cond.ownField (t := .object "java/lang/Object") Y.found L.cls (by decide +kernel) (a' (.fieldLink Bundle.tN 198 Bundle.tN "backtrace" "Ljava/lang/Object;") (by simp [Bundle.ownAtoms0])) (a' (.lays Bundle.tN Bundle.tN "backtrace" "Ljava/lang/Object;") (by simp [Bundle.ownAtoms0])) e.platform hpl
  obtain ⟨cellS, hcS', heS, -, hkeep⟩ := X.same.2.2.2.2.2 T.aS cellS0 hcS0
  have hcellS : W.heap[T.aS]? = some cellS := hcS'
  have hout' : ∀ i, (⟨T.aS, i⟩ : Loc) ∉ locs := fun i hmem => by
    have := hlocs _ hmem cellS0 hcS0
    rw [hiss] at this; cases this
  have hknownS : cellS.vm ≠ .unknown := by
    rw [heS]; intro hu
    rw [show cellS0.vm = .unknown from hu] at hiss
    cases hiss
  have hneS : T.aS ≠ a := Nat.ne_of_lt (Nat.lt_of_lt_of_le (Array.getElem?_eq_some_iff.mp hcS0).1 hnew)
  obtain ⟨iM, hffM⟩ := Y.msg
  obtain ⟨tyC, dC, hdC, hdnC⟩ := Cond.laysAt hfound hk Y.cause (a' (.lays cls Bundle.tN "cause" "Ljava/lang/Throwable;") (by simp [Bundle.ownAtoms0]))
  obtain ⟨tyS, dS, hdS, hdnS⟩ := Cond.laysAt hfound hk Y.stack (a' (.lays cls Bundle.tN "stackTrace" Bundle.steD) (by simp [Bundle.ownAtoms0]))
  obtain ⟨tyP, dP, hdP, hdnP⟩ := Cond.laysAt hfound hk Y.supp (a' (.lays cls Bundle.tN "suppressedExceptions" Bundle.listD) (by simp [Bundle.ownAtoms0]))
  obtain ⟨tyM, dM, hdM, hdnM⟩ := Cond.laysAt hfound hk hffM (a' (.lays cls Bundle.tN "detailMessage" "Ljava/lang/String;") (by simp [Bundle.ownAtoms0]))
  obtain ⟨tyB, dB, hdB, hdnB⟩ := Cond.laysAt hfound hk hffB (a' (.lays cls Bundle.tN "backtrace" "Ljava/lang/Object;") (by simp [Bundle.ownAtoms0]))
  have bC := Cond.laysApart hdB hdC hdnB hdnC (by rw [hnB, Y.causeName]; decide)
  have bS := Cond.laysApart hdB hdS hdnB hdnS (by rw [hnB, Y.stackName]; decide)
  have bP := Cond.laysApart hdB hdP hdnB hdnP (by rw [hnB, Y.suppName]; decide)
  have hskip : SkipFacts T e.platform s (fun u => u) u0 ((preparedCellV T.toThrowableT (freshCell P1.m.cls kX) a u0 sen).withEntry W.cur) :=
    ⟨{ ci198 := ci198, i198 := i198, fBack := fB }, ⟨hk198, hg198, ha198, hsB⟩, by
      have := fresh_default (c := P1.m.cls) tyB
      rw [htB] at this
      simpa [preparedCellV, Cell.setSlot, Cell.withEntry, Array.getElem?_setIfInBounds, bC, bS, bP, bC.symm, bS.symm, bP.symm, defaultValue] using this, fun _ _ => rfl⟩
  obtain ⟨tm, methC, cdC, kC, vm₁, hnC, -, -, -, -, -, -, -, hW₁, st1⟩ := Steps.initCold (tb := p.tables) (e := e) (below := below) (s := s) (U := W) X.here hexec X.warmed hpl hown (t := Bundle.init0 cls) rfl rfl (Bundle.fit_spec hcls).2
    (a' (.methodLink own ic (Bundle.init0 cls)) (by simp [Bundle.ownAtoms0])) (h (.instanceMethod (Bundle.init0 cls)) (by cases names <;> simp [Bundle.ownAtoms0, Bundle.chain0Atoms, Bundle.passAtoms])) (bytes := Bundle.five) (maxL := 1) (h (.code (Bundle.init0 cls) Bundle.five 1 none) (by cases names <;> simp [Bundle.ownAtoms0, Bundle.chain0Atoms, Bundle.passAtoms]))
    (f := g) hg (a := a) (rest := .ref a :: rest) hstack hd6
  cases Option.some.inj (hnC.symm.trans hP1m)
  have X₁ := X.noted hW₁
  obtain ⟨vm₂, X₂, st2⟩ := X₁.ctorPlainOffV hexec (g := { g with stack := .ref a :: rest }) hg hsize T L Z LZ (P1 :: Ps)
    (fun P hP => by rcases List.mem_cons.mp hP with rfl | hP; exact L1; exact hL P hP) ⟨hlink1, hlink⟩ (u0 := u0) (sen := sen) (self := a) (cell := freshCell P1.m.cls kX) (cellS := cellS)
    hcell (fun _ => by simp) (by simp) rfl rfl hsel0 hselF hcellS hneS hknownS (by rw [hkeep _ (hout' _)]; exact hu0) (by rw [hkeep _ (hout' _)]; exact hsen)
    (Takes.of_laid hk hord tyC (by rw [Y.causeType]; rfl)) (Takes.of_laid hk hord tyS (by rw [Y.stackType]; exact fits_refV_array _ u0)) (Takes.of_laid hk hord tyP (by rw [Y.suppType]; exact fits_refV_object _ sen)) Y.objLocals hskip htr [] hd6
    (by simp only [List.length_cons, hlen]; omega) (by simp only [List.length_cons, hlen]; exact hRlocals)
  have hlt : a < ((W.setVm vm₁).setVm vm₂).heap.size := (Array.getElem?_eq_some_iff.mp hcell).1
  refine ⟨(W.setVm vm₁).setVm vm₂, _, _, X₂, fun y hy => ?_, hlt, rfl, rfl, fun target hwalk => st1 _ (fun acts => ?_)⟩
  · simp only [List.mem_cons, List.not_mem_nil, or_false] at hy
    rcases hy with rfl | rfl | rfl | rfl <;> rfl
  · rw [doInvoke_state]
    exact st2 _ hwalk
end VXK
section VXK2
variable {p : Program} {l : Launch} {e : Env} {R : Room} {s : State} {m : MethodId} {args : Array Value} {below : List Frame} {meth : Method} {c : Code} {H : Heap} {locs : List Loc} {cells slots : Nat} {Q : State → Prop}
variable {ls : Array Slot} {rest : List Value} {D : va_G} {cl : List vw_C} {tys : List (ClassId × FieldType)} {ws : va_W}
/-- 'new E("text")' that isn't thrown at once: the object goes on the stack -/
theorem vx_makeS {cc : ByteArray} {pc : Nat} (hexec : p.tables.exec = Jvm.exec) (hb : c.code = cc) (hl : l.stackTraces = false) {own cls text : String} {names : List String} {ik is ic sa ci : Nat} {A : Nat → Prop} {T0 : u_T}
    (hown : s.vm.findClass own = some m.cls) (hcls : Bundle.fit cls = true) (hnames : ∀ n ∈ names, Bundle.fit n = true)
    (hk : (Cond.classLink own ik cls).before args s = true) (hini : (Cond.initialized cls).before args s = true) (hstr : vk_R own is text sa s) (hat : ∀ w ∈ vx_atS own ic cls names, w.before args s = true)
    (hgood : ∀ w ∈ Cond.classLink own ik cls :: Cond.initialized cls :: vx_atS own ic cls names, vx_ot w = true)
    (hU : vx_Zq Bundle.tN "UNASSIGNED_STACK" Bundle.steD A s s.heap) (hN : vx_Zq Bundle.tN "SUPPRESSED_SENTINEL" Bundle.listD A s s.heap) (hS : va_S A s.heap H locs) (hsize : ls.size = c.maxLocals)
    (d0 : decode cc pc = .ok (.new ik, 3)) (d3 : decode cc (pc + 3) = .ok (.dup, 1)) (d4 : decode cc (pc + 4) = .ok (.ldc is, 2)) (d6 : decode cc (pc + 6) = .ok (.invokespecial ic, 3))
    (hK : va_K D cl tys s) (hP : va_P D cl ws H) (hD : va_D A ws) (hA : ∀ q, s.heap.size ≤ q → A q) (hc : cl[ci]? = some (cls, T0, 0))
    (hRframes : names.length + 3 < R.frames) (hRlocals : (rest.map fun v => v.category).sum + (13 * (names.length + 1) + 43) ≤ R.locals) (hRcells : cells + 1 ≤ R.cells) (hRslots : slots + 6 ≤ R.slots)
    (kk : ∀ (q : Nat) (H1 : Heap), va_P D cl (ws ++ [(q, .inr (ci, []))]) H1 → va_D A (ws ++ [(q, .inr (ci, []))]) → va_S A s.heap H1 locs → W p l e R s m args below meth c H1 locs (cells + 1) (slots + 6) Q (F0 m (pc + 9) ls (.ref q :: rest))) :
    W p l e R s m args below meth c H locs cells slots Q (F0 m pc ls rest) := by
  intro T hT X
  subst hT
  have htr : e.platform.stackTraces = false := (show e.platform.stackTraces = l.stackTraces by rw [X.admits.platform]).trans hl
  have Y := vx_rebase X (R' := { frames := R.frames, locals := R.locals, cells := 1, slots := 6 }) (Nat.le_refl _) (Nat.le_refl _) hRcells hRslots
  obtain ⟨s', hA'⟩ : ∃ z, z = (T.setVm s.vm).setFrames (.invoking m args :: below) := ⟨_, rfl⟩
  rw [← hA'] at Y
  have hvm : s'.vm = s.vm := by rw [hA']; rfl
  have hhp : s'.heap = T.heap := by rw [hA']; rfl
  have hW0 : s.WarmedH s'.vm := by rw [hvm]; exact State.WarmedH.refl s
  have hat' : ∀ w ∈ vx_atS own ic cls names, w.before args s' = true := fun w hw => vx_ot_at hW0 hvm.symm (hgood w (List.mem_cons_of_mem _ (List.mem_cons_of_mem _ hw))) (hat w hw)
  have hk' : (Cond.classLink own ik cls).before args s' = true := vx_ot_at hW0 hvm.symm (hgood _ List.mem_cons_self) hk
  have hini' : (Cond.initialized cls).before args s' = true := vx_ot_at hW0 hvm.symm (hgood _ (List.mem_cons_of_mem _ List.mem_cons_self)) hini
  have hU' : vx_Zq Bundle.tN "UNASSIGNED_STACK" Bundle.steD A s' s'.heap := by rw [hhp]; exact vx_Zq.moved hW0.alike (hU.kept hS.2.1)
  have hN' : vx_Zq Bundle.tN "SUPPRESSED_SENTINEL" Bundle.listD A s' s'.heap := by rw [hhp]; exact vx_Zq.moved hW0.alike (hN.kept hS.2.1)
  have h : ∀ w ∈ Bundle.ownAtoms own ic cls names, w.before args s' = true := vx_own hat' (vx_isRefq hU'.1) (vx_isRefq hN'.1) hU'.2.word hN'.2.word
  have hown' : s'.vm.findClass own = some m.cls := by rw [hvm]; exact hown
  have hins : (Cond.instantiable cls 6).before args s' = true := h _ (by simp [Bundle.ownAtoms])
  obtain ⟨vm₁, cX, kX, hfX, hkX, -, -, X₁, st1⟩ := Y.newCold hexec (own := own) (C := cls) (index := ik) (n := 6) hown' hk' hins hini'
    (g := F0 m pc ls rest) rfl (by rw [hb]; exact d0) (Nat.le_refl _) (Nat.le_refl _)
  generalize hT1 : (T.setVm vm₁).pushCell { cls := cX, slots := kX.instanceTypes.map defaultValue, vm := .none } = T1 at X₁ st1
  have hcat : (Value.ref T.heap.size).category = 1 := rfl
  have hcellA : T1.heap[T.heap.size]? = some (freshCell cX kX) := by rw [← hT1]; exact State.heap_pushCell_size _ _
  have d3' : decode c.code (pc + 3) = .ok (.dup, 1) := by rw [hb]; exact d3
  have d4' : decode c.code (pc + 4) = .ok (.ldc is, 2) := by rw [hb]; exact d4
  have hstr' : vk_R own is text sa s' := vk_R.warm hW0 hstr
  obtain ⟨V, ce, L, Z, hL, hlt, hcl9, hvm9, st⟩ := vx_ctorMadeS X₁ hexec htr (own := own) (cls := cls) (names := names) (ic := ic) hown' hcls hnames h (fun x hx => nomatch hx) hfX hkX hcellA (by rw [hhp]; exact Nat.le_refl _) (msg := .ref sa) rfl
    (g := { method := m, pc := pc + 6, locals := ls, stack := .ref sa :: .ref T.heap.size :: .ref T.heap.size :: rest, locked := none }) rfl hsize (rest := rest) rfl
    (by rw [hb]; exact d6) hRframes (by simp only [List.map_cons, List.sum_cons, hcat]; omega)
  have Z0 := Stand.forget (locs := []) Z (fun y hy => by rw [hL y hy, hhp]; exact Nat.le_refl _)
  obtain ⟨f1, f2⟩ := vx_frame Z0.same
  rw [hhp] at f1 f2
  have hcid : ce.cls = D.1 ci := by
    rw [hcl9]
    have h1 := (hK.1 ci _ hc).2.1
    rw [hvm] at hfX
    exact Option.some.inj (hfX.symm.trans h1)
  have hh : (V.setCell T.heap.size ce).heap[T.heap.size]? = some ce := heapAt_setCell_self (s := V) ce hlt
  subst hA'
  have X5 := vx_back9 X Y Z0
  have X6 : Stand p l e R s m args below meth c (V.setCell T.heap.size ce) locs (cells + 1) (slots + 6) := { X5 with same := X5.same.mono (by omega) (by omega) }
  have hk9 : ∀ (k : Nat) (x : Nat × va_E), ws[k]? = some x → (V.setCell T.heap.size ce).heap[x.1]? = T.heap[x.1]? := fun k x hx => f2 x.1 ((hP k x hx).lt) (fun z hz => nomatch hz)
  obtain ⟨t, a1, b1⟩ := kk T.heap.size (V.setCell T.heap.size ce).heap ((hP.kept hk9).app (fun k x hx => by
      have hz : k < 1 := (List.getElem?_eq_some_iff.mp hx).1
      rw [show k = 0 by omega] at hx
      cases hx
      exact ⟨_, hc, ce, hh, hcid, hvm9, fun k hk => absurd hk (Nat.not_lt_zero k)⟩)) (hD.push hP rfl (hA _ hS.1)) ⟨Nat.le_trans hS.1 f1, fun q h1 h2 => (f2 q (Nat.lt_of_lt_of_le h1 hS.1) (fun z hz => nomatch hz)).trans (hS.2.1 q h1 h2), hS.2.2⟩ _ rfl X6
  refine ⟨t, st1 _ ?_, b1⟩
  show Steps p.tables e below (T1.setTop { method := m, pc := pc + 3, locals := ls, stack := .ref T.heap.size :: rest, locked := none }) _
  jvm_step X₁.here [X₁.here.top, hexec, d3', Value.category]
  exact X₁.ldcString hexec (own := own) (text := text) (index := is) (a := sa) hown' hstr'.1 hstr'.2
    (g := { method := m, pc := pc + 4, locals := ls, stack := .ref T.heap.size :: .ref T.heap.size :: rest, locked := none }) rfl d4' _ (st _ a1)
/-- 'new E()' that isn't thrown at once: the object goes on the stack -/
theorem vx_make0 {cc : ByteArray} {pc : Nat} (hexec : p.tables.exec = Jvm.exec) (hb : c.code = cc) (hl : l.stackTraces = false) {own cls : String} {names : List String} {ik ic ci : Nat} {A : Nat → Prop} {T0 : u_T}
    (hown : s.vm.findClass own = some m.cls) (hcls : Bundle.fit cls = true) (hnames : ∀ n ∈ names, Bundle.fit n = true)
    (hk : (Cond.classLink own ik cls).before args s = true) (hini : (Cond.initialized cls).before args s = true) (hat : ∀ w ∈ vx_at0 own ic cls names, w.before args s = true)
    (hgood : ∀ w ∈ Cond.classLink own ik cls :: Cond.initialized cls :: vx_at0 own ic cls names, vx_ot w = true)
    (hU : vx_Zq Bundle.tN "UNASSIGNED_STACK" Bundle.steD A s s.heap) (hN : vx_Zq Bundle.tN "SUPPRESSED_SENTINEL" Bundle.listD A s s.heap) (hS : va_S A s.heap H locs) (hsize : ls.size = c.maxLocals)
    (d0 : decode cc pc = .ok (.new ik, 3)) (d3 : decode cc (pc + 3) = .ok (.dup, 1)) (d4 : decode cc (pc + 4) = .ok (.invokespecial ic, 3))
    (hK : va_K D cl tys s) (hP : va_P D cl ws H) (hD : va_D A ws) (hA : ∀ q, s.heap.size ≤ q → A q) (hc : cl[ci]? = some (cls, T0, 0))
    (hRframes : names.length + 3 < R.frames) (hRlocals : (rest.map fun v => v.category).sum + (13 * (names.length + 1) + 42) ≤ R.locals) (hRcells : cells + 1 ≤ R.cells) (hRslots : slots + 6 ≤ R.slots)
    (kk : ∀ (q : Nat) (H1 : Heap), va_P D cl (ws ++ [(q, .inr (ci, []))]) H1 → va_D A (ws ++ [(q, .inr (ci, []))]) → va_S A s.heap H1 locs → W p l e R s m args below meth c H1 locs (cells + 1) (slots + 6) Q (F0 m (pc + 7) ls (.ref q :: rest))) :
    W p l e R s m args below meth c H locs cells slots Q (F0 m pc ls rest) := by
  intro T hT X
  subst hT
  have htr : e.platform.stackTraces = false := (show e.platform.stackTraces = l.stackTraces by rw [X.admits.platform]).trans hl
  have Y := vx_rebase X (R' := { frames := R.frames, locals := R.locals, cells := 1, slots := 6 }) (Nat.le_refl _) (Nat.le_refl _) hRcells hRslots
  obtain ⟨s', hA'⟩ : ∃ z, z = (T.setVm s.vm).setFrames (.invoking m args :: below) := ⟨_, rfl⟩
  rw [← hA'] at Y
  have hvm : s'.vm = s.vm := by rw [hA']; rfl
  have hhp : s'.heap = T.heap := by rw [hA']; rfl
  have hW0 : s.WarmedH s'.vm := by rw [hvm]; exact State.WarmedH.refl s
  have hat' : ∀ w ∈ vx_at0 own ic cls names, w.before args s' = true := fun w hw => vx_ot_at hW0 hvm.symm (hgood w (List.mem_cons_of_mem _ (List.mem_cons_of_mem _ hw))) (hat w hw)
  have hk' : (Cond.classLink own ik cls).before args s' = true := vx_ot_at hW0 hvm.symm (hgood _ List.mem_cons_self) hk
  have hini' : (Cond.initialized cls).before args s' = true := vx_ot_at hW0 hvm.symm (hgood _ (List.mem_cons_of_mem _ List.mem_cons_self)) hini
  have hU' : vx_Zq Bundle.tN "UNASSIGNED_STACK" Bundle.steD A s' s'.heap := by rw [hhp]; exact vx_Zq.moved hW0.alike (hU.kept hS.2.1)
  have hN' : vx_Zq Bundle.tN "SUPPRESSED_SENTINEL" Bundle.listD A s' s'.heap := by rw [hhp]; exact vx_Zq.moved hW0.alike (hN.kept hS.2.1)
  have h : ∀ w ∈ Bundle.ownAtoms0 own ic cls names, w.before args s' = true := vx_own hat' (vx_isRefq hU'.1) (vx_isRefq hN'.1) hU'.2.word hN'.2.word
  have hown' : s'.vm.findClass own = some m.cls := by rw [hvm]; exact hown
  have hins : (Cond.instantiable cls 6).before args s' = true := h _ (by simp [Bundle.ownAtoms0])
  obtain ⟨vm₁, cX, kX, hfX, hkX, -, -, X₁, st1⟩ := Y.newCold hexec (own := own) (C := cls) (index := ik) (n := 6) hown' hk' hins hini'
    (g := F0 m pc ls rest) rfl (by rw [hb]; exact d0) (Nat.le_refl _) (Nat.le_refl _)
  generalize hT1 : (T.setVm vm₁).pushCell { cls := cX, slots := kX.instanceTypes.map defaultValue, vm := .none } = T1 at X₁ st1
  have hcat : (Value.ref T.heap.size).category = 1 := rfl
  have hcellA : T1.heap[T.heap.size]? = some (freshCell cX kX) := by rw [← hT1]; exact State.heap_pushCell_size _ _
  have d3' : decode c.code (pc + 3) = .ok (.dup, 1) := by rw [hb]; exact d3
  obtain ⟨V, ce, L, Z, hL, hlt, hcl9, hvm9, st⟩ := vx_ctorMade0 X₁ hexec htr (own := own) (cls := cls) (names := names) (ic := ic) hown' hcls hnames h (fun x hx => nomatch hx) hfX hkX hcellA (by rw [hhp]; exact Nat.le_refl _)
    (g := { method := m, pc := pc + 4, locals := ls, stack := .ref T.heap.size :: .ref T.heap.size :: rest, locked := none }) rfl hsize (rest := rest) rfl
    (by rw [hb]; exact d4) hRframes (by simp only [List.map_cons, List.sum_cons, hcat]; omega)
  have Z0 := Stand.forget (locs := []) Z (fun y hy => by rw [hL y hy, hhp]; exact Nat.le_refl _)
  obtain ⟨f1, f2⟩ := vx_frame Z0.same
  rw [hhp] at f1 f2
  have hcid : ce.cls = D.1 ci := by
    rw [hcl9]
    have h1 := (hK.1 ci _ hc).2.1
    rw [hvm] at hfX
    exact Option.some.inj (hfX.symm.trans h1)
  have hh : (V.setCell T.heap.size ce).heap[T.heap.size]? = some ce := heapAt_setCell_self (s := V) ce hlt
  subst hA'
  have X5 := vx_back9 X Y Z0
  have X6 : Stand p l e R s m args below meth c (V.setCell T.heap.size ce) locs (cells + 1) (slots + 6) := { X5 with same := X5.same.mono (by omega) (by omega) }
  have hk9 : ∀ (k : Nat) (x : Nat × va_E), ws[k]? = some x → (V.setCell T.heap.size ce).heap[x.1]? = T.heap[x.1]? := fun k x hx => f2 x.1 ((hP k x hx).lt) (fun z hz => nomatch hz)
  obtain ⟨t, a1, b1⟩ := kk T.heap.size (V.setCell T.heap.size ce).heap ((hP.kept hk9).app (fun k x hx => by
      have hz : k < 1 := (List.getElem?_eq_some_iff.mp hx).1
      rw [show k = 0 by omega] at hx
      cases hx
      exact ⟨_, hc, ce, hh, hcid, hvm9, fun k hk => absurd hk (Nat.not_lt_zero k)⟩)) (hD.push hP rfl (hA _ hS.1)) ⟨Nat.le_trans hS.1 f1, fun q h1 h2 => (f2 q (Nat.lt_of_lt_of_le h1 hS.1) (fun z hz => nomatch hz)).trans (hS.2.1 q h1 h2), hS.2.2⟩ _ rfl X6
  refine ⟨t, st1 _ ?_, b1⟩
  show Steps p.tables e below (T1.setTop { method := m, pc := pc + 3, locals := ls, stack := .ref T.heap.size :: rest, locked := none }) _
  jvm_step X₁.here [X₁.here.top, hexec, d3', Value.category]
  exact st _ a1
/-- 'throw x' of an object that was made before -/
theorem vx_athrow {cc : ByteArray} {pc : Nat} (hexec : p.tables.exec = Jvm.exec) (hb : c.code = cc) {q : Addr} (hdg : decode cc pc = .ok (.athrow, 1)) (k : vx_W p l e R s m args below meth c H locs cells slots Q (F0 m pc ls rest) q) : W p l e R s m args below meth c H locs cells slots Q (F0 m pc ls (.ref q :: rest)) := by
  intro T hT X
  obtain ⟨t, st, hq⟩ := k T hT X
  refine ⟨t, ?_, hq⟩
  have hdg' : decode c.code pc = .ok (.athrow, 1) := by rw [hb]; exact hdg
  jvm_step X.here [X.here.top, hexec, hdg', athrow.wp_sem]
  exact st
end VXK2
/-! ===== END ===== -/
/-! ===== BEGIN a constructor that throws (launches without stack traces) ===== -/
section VXIA
variable {p : Program} {l : Launch} {e : Env} {R : Room} {s : State} {m : MethodId} {args : Array Value} {below : List Frame} {meth : Method} {c : Code} {T : State} {locs : List Loc} {cells slots : Nat}
theorem vx_callI (X : Stand p l e R s m args below meth c T locs cells slots) (hexec : p.tables.exec = Jvm.exec) {own : String} {index : Nat} {y : MethodName} {bytes : ByteArray} {maxL : Nat}
    (hown : s.vm.findClass own = some m.cls) (hy1 : y.name = "<init>") (hlink : (Cond.methodLink own index y).before args s = true) (hinst : (Cond.instanceMethod y).before args s = true)
    (hcode : (Cond.code y bytes maxL none).before args s = true) (hy : y.cls ≠ "java/lang/invoke/MethodHandle" ∧ y.cls ≠ "java/lang/invoke/VarHandle")
    {W9 : Nat} {Pre : Pt → Array Value → Prop} {Post : Pt → Array Value → Option Value → Pt → Prop} {PostX : Pt → Array Value → Addr → Pt → Prop} (hK : vx_Back l R p e below s args y 3 W9 Pre Post PostX)
    {g : JFrame} (hg : g.method = m) (hsize : g.locals.size = c.maxLocals) {a : Addr} {argsL rest : List Value} (hlen : ∀ sig, parseMethodDescriptor y.desc = some sig → argsL.length = sig.parameters.length)
    (hstack : g.stack = argsL.reverse ++ .ref a :: rest) (hW : 2 * g.monitorRoom + (rest.map fun v => v.category).sum ≤ W9) (hdg : decode c.code g.pc = .ok (.invokespecial index, 3))
    (hpre : ∀ vm₁, s.WarmedH vm₁ → Pre ⟨T.setVm vm₁, locs, cells, slots⟩ (Value.ref a :: argsL).toArray) :
    (∃ (v : Option Value) (vm₁ : Vm) (B : Pt), s.WarmedH vm₁ ∧ Stand p l e R s m args below meth c B.U B.locs B.cells B.slots ∧ Post ⟨T.setVm vm₁, locs, cells, slots⟩ (Value.ref a :: argsL).toArray v B ∧
      ∀ target, Steps p.tables e below (B.U.setTop { g with pc := g.pc + 3, stack := v.toList ++ rest }) target → Steps p.tables e below (T.setTop g) target) ∨
    (∃ (q : Addr) (vm₁ : Vm) (B : Pt), s.WarmedH vm₁ ∧ Stand p l e R s m args below meth c B.U B.locs B.cells B.slots ∧ PostX ⟨T.setVm vm₁, locs, cells, slots⟩ (Value.ref a :: argsL).toArray q B ∧
      Steps p.tables e below (T.setTop g) ((B.U.setTop { g with stack := rest }).pushFrame (.throwing q))) := by
  subst hg
  have hpl : e.platform.magicAccessors = ({} : Platform).magicAccessors := by rw [X.admits.platform]
  obtain ⟨mk, methM, cM, kP, vm₁, hnamed, hmethM, hcodeM, -, hlocalsM, -, hkP, -, hW₁, hstep₁⟩ := Steps.initColdArgs (e := e) X.here hexec X.warmed hpl hown hy1 hy hlink hinst hcode (f := g) rfl hlen hstack hdg
  have X₁ := X.noted hW₁
  rcases hK g.method meth c ⟨T.setVm vm₁, locs, cells, slots⟩ { g with stack := rest } (.invokespecial index) mk (Value.ref a :: argsL).toArray X₁ rfl hsize hdg hW (X₁.named hnamed) (hpre vm₁ X₁.warmed) with ⟨v, B, X', hpost, hsteps⟩ | ⟨q, B, X', hpost, hsteps⟩
  · exact Or.inl ⟨v, vm₁, B, X₁.warmed, X', hpost, fun target h => hstep₁ _ fun acts => by rw [doInvoke_state]; exact hsteps.trans h⟩
  · exact Or.inr ⟨q, vm₁, B, X₁.warmed, X', hpost, hstep₁ _ fun acts => by rw [doInvoke_state]; exact hsteps⟩
end VXIA
section VXIB
variable {p : Program} {l : Launch} {e : Env} {R : Room} {s : State} {m : MethodId} {args : Array Value} {below : List Frame} {meth : Method} {c : Code} {H : Heap} {locs : List Loc} {cells slots : Nat}
variable {y : MethodName} {bytes cc : ByteArray} {maxL nL mc ms n index : Nat} {ret : Option FieldType} {ws : List Cond} {rm : Room} {Pc : Array Value → State → Prop} {Qc : Array Value → State → Outcome → State → Prop} {XC : String → State → State → Prop} {free : Addr → Prop} {Ts : List Cond} {own C : String} {b : Addr} {As rest : List Value} {g : JFrame}
theorem vx_runI (S : CallFix p m c cc nL s args Ts own) (hM : vx_Met l y ws rm Pc Qc XC mc ms free) (cw : CallB R s args own index y bytes maxL none ws rm mc ms n ∧ y.name = "<init>" ∧ (Cond.instanceMethod y).before args s = true) (hp : PreS s H Pc (.ref b :: As))
    (hg : g.method = m) (hn : As.length = n) (hsize : g.locals.size = nL) (hstack : g.stack = As.reverse ++ .ref b :: rest) (hW : 2 * g.monitorRoom + (rest.map fun v => v.category).sum ≤ 8) (hdg : decode cc g.pc = .ok (.invokespecial index, 3)) (hf : cells + mc ≤ R.cells ∧ slots + ms ≤ R.slots) :
    vx_Run p l e R s m args below meth c H locs cells slots mc ms g rest (Qc (Value.ref b :: As).toArray) XC free := by
  have hK : vx_Back l R p e below s args y 3 8 (PreOf R mc ms Pc) (PostOf Qc mc ms free) (vx_Post XC mc ms free) := vx_callBack cw.1 hM hp.1
  obtain ⟨⟨-, -, -, -, -, -, hcode, -, hy, hlen, hl⟩, hy1, hin⟩ := cw
  obtain ⟨hx, hb, hml, ho, -⟩ := S
  have hPc := hp.2
  intro T hT X
  rcases vx_callI X hx (bytes := bytes) (maxL := maxL) ho hy1 hl hin hcode hy hK hg (hsize.trans hml.symm) (a := b) (argsL := As) (rest := rest) (fun sig h => hn.trans (hlen sig h)) hstack hW (by rw [hb]; exact hdg)
    (fun vm₁ hW₁ => ⟨hf.1, hf.2, hPc (T.setVm vm₁) hT hW₁⟩) with ⟨v, vm₁, ⟨U', l2, c2, s2⟩, hW₁, X', ⟨g', mk, t, L, e1, e2, hq, h1, hL, h2, h3⟩, st⟩ | ⟨q, vm₁, ⟨U', l2, c2, s2⟩, hW₁, X', ⟨g', mk, t, L, E, ce, e1, e2, hq, hce, hcv, hcl, h1, hL, h2, h3⟩, st⟩
  · dsimp only [Pt.U, Pt.locs, Pt.cells, Pt.slots] at X' e1 e2 h1 h2 h3 st
    subst h1; subst h2; subst h3
    exact Or.inl ⟨v, (T.setVm vm₁).calling g' mk (Value.ref b :: As).toArray, t, U', L, hT, X', hL, e1, e2, hq, st⟩
  · dsimp only [Pt.U, Pt.locs, Pt.cells, Pt.slots] at X' e1 e2 h1 h2 h3 st hcl
    subst h1; subst h2; subst h3
    exact Or.inr ⟨q, (T.setVm vm₁).calling g' mk (Value.ref b :: As).toArray, t, U', L, E, ce, hT, X', hL, e1, e2, hq, hce, hcv, vx_cls hW₁ hcl, st⟩
end VXIB
/-! ===== END ===== -/
/-! ===== BEGIN a private constructor of a nest mate that throws ===== -/
section VXIC
variable {p : Program} {l : Launch} {e : Env} {R : Room} {s : State} {m : MethodId} {args : Array Value} {below : List Frame} {meth : Method} {c : Code} {T : State} {locs : List Loc} {cells slots : Nat}
theorem vx_callIN (X : Stand p l e R s m args below meth c T locs cells slots) (hexec : p.tables.exec = Jvm.exec) {own : String} {index : Nat} {host : String} {y : MethodName} {bytes : ByteArray} {maxL : Nat}
    (hown : s.vm.findClass own = some m.cls) (hy1 : y.name = "<init>") (hlink : (Cond.methodLinkNest own index y host).before args s = true) (hinst : (Cond.instanceMethod y).before args s = true)
    (hcode : (Cond.code y bytes maxL none).before args s = true) (hy : y.cls ≠ "java/lang/invoke/MethodHandle" ∧ y.cls ≠ "java/lang/invoke/VarHandle")
    {W9 : Nat} {Pre : Pt → Array Value → Prop} {Post : Pt → Array Value → Option Value → Pt → Prop} {PostX : Pt → Array Value → Addr → Pt → Prop} (hK : vx_Back l R p e below s args y 3 W9 Pre Post PostX)
    {g : JFrame} (hg : g.method = m) (hsize : g.locals.size = c.maxLocals) {a : Addr} {argsL rest : List Value} (hlen : ∀ sig, parseMethodDescriptor y.desc = some sig → argsL.length = sig.parameters.length)
    (hstack : g.stack = argsL.reverse ++ .ref a :: rest) (hW : 2 * g.monitorRoom + (rest.map fun v => v.category).sum ≤ W9) (hdg : decode c.code g.pc = .ok (.invokespecial index, 3))
    (hpre : ∀ vm₁, s.WarmedH vm₁ → Pre ⟨T.setVm vm₁, locs, cells, slots⟩ (Value.ref a :: argsL).toArray) :
    (∃ (v : Option Value) (vm₁ : Vm) (B : Pt), s.WarmedH vm₁ ∧ Stand p l e R s m args below meth c B.U B.locs B.cells B.slots ∧ Post ⟨T.setVm vm₁, locs, cells, slots⟩ (Value.ref a :: argsL).toArray v B ∧
      ∀ target, Steps p.tables e below (B.U.setTop { g with pc := g.pc + 3, stack := v.toList ++ rest }) target → Steps p.tables e below (T.setTop g) target) ∨
    (∃ (q : Addr) (vm₁ : Vm) (B : Pt), s.WarmedH vm₁ ∧ Stand p l e R s m args below meth c B.U B.locs B.cells B.slots ∧ PostX ⟨T.setVm vm₁, locs, cells, slots⟩ (Value.ref a :: argsL).toArray q B ∧
      Steps p.tables e below (T.setTop g) ((B.U.setTop { g with stack := rest }).pushFrame (.throwing q))) := by
  subst hg
  have hpl : e.platform.magicAccessors = ({} : Platform).magicAccessors := by rw [X.admits.platform]
  obtain ⟨mk, methM, cM, kP, vm₁, hnamed, hmethM, hcodeM, -, hlocalsM, -, hkP, -, hW₁, hstep₁⟩ := Steps.initColdArgsNest (e := e) X.here hexec X.warmed hpl hown hy1 hy hlink hinst hcode (f := g) rfl hlen hstack hdg
  have X₁ := X.noted hW₁
  rcases hK g.method meth c ⟨T.setVm vm₁, locs, cells, slots⟩ { g with stack := rest } (.invokespecial index) mk (Value.ref a :: argsL).toArray X₁ rfl hsize hdg hW (X₁.named hnamed) (hpre vm₁ X₁.warmed) with ⟨v, B, X', hpost, hsteps⟩ | ⟨q, B, X', hpost, hsteps⟩
  · exact Or.inl ⟨v, vm₁, B, X₁.warmed, X', hpost, fun target h => hstep₁ _ fun acts => by rw [doInvoke_state]; exact hsteps.trans h⟩
  · exact Or.inr ⟨q, vm₁, B, X₁.warmed, X', hpost, hstep₁ _ fun acts => by rw [doInvoke_state]; exact hsteps⟩
end VXIC
section VXID
variable {p : Program} {l : Launch} {e : Env} {R : Room} {s : State} {m : MethodId} {args : Array Value} {below : List Frame} {meth : Method} {c : Code} {H : Heap} {locs : List Loc} {cells slots : Nat}
theorem vx_runIN {y : MethodName} {bytes cc : ByteArray} {maxL nL mc ms n index : Nat} {ws : List Cond} {rm : Room} {Pc : Array Value → State → Prop} {Qc : Array Value → State → Outcome → State → Prop} {XC : String → State → State → Prop} {free : Addr → Prop} {Ts : List Cond} {own host : String} {b : Addr} {As rest : List Value} {g : JFrame}
    (S : CallFix p m c cc nL s args Ts own) (hM : vx_Met l y ws rm Pc Qc XC mc ms free) (cw : va_CN R s args own index y host bytes maxL none ws rm mc ms n ∧ y.name = "<init>" ∧ (Cond.instanceMethod y).before args s = true) (hp : PreS s H Pc (.ref b :: As))
    (hg : g.method = m) (hn : As.length = n) (hsize : g.locals.size = nL) (hstack : g.stack = As.reverse ++ .ref b :: rest) (hW : 2 * g.monitorRoom + (rest.map fun v => v.category).sum ≤ 8) (hdg : decode cc g.pc = .ok (.invokespecial index, 3)) (hf : cells + mc ≤ R.cells ∧ slots + ms ≤ R.slots) :
    vx_Run p l e R s m args below meth c H locs cells slots mc ms g rest (Qc (Value.ref b :: As).toArray) XC free := by
  obtain ⟨⟨⟨hrc, hrs, hfr, hlo, hws, hcw⟩, hcode, hini, hy, hlen, hl⟩, hx1, hx2⟩ := cw
  have hK : vx_Back l R p e below s args y 3 8 (PreOf R mc ms Pc) (PostOf Qc mc ms free) (vx_Post XC mc ms free) := vx_back (bytes := bytes) (maxL := maxL) (ret := none) hM hp.1 hrc hrs hfr hlo hws hcw (fun a' U hW => word_at hW (Or.inl (by first | rfl | simp [Cond.onTables, Cond.keeps, Cond.steady])) hini)
  obtain ⟨hx, hb, hml, ho, -⟩ := S
  have hPc := hp.2
  intro T hT X
  rcases vx_callIN X hx (bytes := bytes) (maxL := maxL) ho hx1 hl hx2 hcode hy hK hg (hsize.trans hml.symm) (a := b) (argsL := As) (rest := rest) (fun sig h => hn.trans (hlen sig h)) hstack hW (by rw [hb]; exact hdg)
    (fun vm₁ hW₁ => ⟨hf.1, hf.2, hPc (T.setVm vm₁) hT hW₁⟩) with ⟨v, vm₁, ⟨U', l2, c2, s2⟩, hW₁, X', ⟨g', mk, t, L, e1, e2, hq, h1, hL, h2, h3⟩, st⟩ | ⟨q, vm₁, ⟨U', l2, c2, s2⟩, hW₁, X', ⟨g', mk, t, L, E, ce, e1, e2, hq, hce, hcv, hcl, h1, hL, h2, h3⟩, st⟩
  · dsimp only [Pt.U, Pt.locs, Pt.cells, Pt.slots] at X' e1 e2 h1 h2 h3 st
    subst h1; subst h2; subst h3
    exact Or.inl ⟨v, (T.setVm vm₁).calling g' mk (Value.ref b :: As).toArray, t, U', L, hT, X', hL, e1, e2, hq, st⟩
  · dsimp only [Pt.U, Pt.locs, Pt.cells, Pt.slots] at X' e1 e2 h1 h2 h3 st hcl
    subst h1; subst h2; subst h3
    exact Or.inr ⟨q, (T.setVm vm₁).calling g' mk (Value.ref b :: As).toArray, t, U', L, E, ce, hT, X', hL, e1, e2, hq, hce, hcv, vx_cls hW₁ hcl, st⟩
end VXID
/-! ===== END ===== -/
/-! ===== BEGIN a method of a class above, found by the receiver, that may throw (follows va_callVU, va_runU of this kit) ===== -/
section
variable {p : Program} {l : Launch} {e : Env} {R : Room} {s : State} {m : MethodId} {args : Array Value} {below : List Frame} {meth : Method} {c : Code} {H : Heap} {locs : List Loc} {cells slots : Nat}
theorem vx_callVU {T : State} {locs : List Loc} {cells slots : Nat} (X : Stand p l e R s m args below meth c T locs cells slots) (hexec : p.tables.exec = Jvm.exec) {own C owner : String} {index : Nat} {x y : MethodName} {bytes : ByteArray} {maxL : Nat} {ret : Option FieldType}
    (hown : s.vm.findClass own = some m.cls) (hlink : (Cond.methodLink own index x).before args s = true) (hsame : (Cond.sameMethod x.cls owner x.name x.desc).before args s = true)
    (hd0 : va_Decl s ⟨owner, x.name, x.desc⟩) (howner : owner ≠ "java/lang/invoke/MethodHandle" ∧ owner ≠ "java/lang/invoke/VarHandle")
    (hsel : (Cond.selects C x y).before args s = true) (hinst : (Cond.instanceMethod y).before args s = true) (hcode : (Cond.code y bytes maxL ret).before args s = true)
    {W : Nat} {Pre : Pt → Array Value → Prop} {Post : Pt → Array Value → Option Value → Pt → Prop} {PostX : Pt → Array Value → Addr → Pt → Prop} (hK : vx_Back l R p e below s args y 3 W Pre Post PostX)
    {b : Addr} {cellB : Cell} (hcell : T.heap[b]? = some cellB) (hobj : cellB.vm.isStatics = false) (hcls : s.vm.findClass C = some cellB.cls)
    {g : JFrame} (hg : g.method = m) (hsize : g.locals.size = c.maxLocals) {argsL rest : List Value} (hlen : ∀ sig, parseMethodDescriptor x.desc = some sig → argsL.length = sig.parameters.length)
    (hstack : g.stack = argsL.reverse ++ .ref b :: rest) (hW : 2 * g.monitorRoom + (rest.map fun v => v.category).sum ≤ W) (hdg : decode c.code g.pc = .ok (.invokevirtual index, 3))
    (hpre : ∀ vm₁, s.WarmedH vm₁ → Pre ⟨T.setVm vm₁, locs, cells, slots⟩ (Value.ref b :: argsL).toArray) :
    (∃ (v : Option Value) (vm₁ : Vm) (B : Pt), s.WarmedH vm₁ ∧ Stand p l e R s m args below meth c B.U B.locs B.cells B.slots ∧ Post ⟨T.setVm vm₁, locs, cells, slots⟩ (Value.ref b :: argsL).toArray v B ∧
      ∀ target, Steps p.tables e below (B.U.setTop { g with pc := g.pc + 3, stack := v.toList ++ rest }) target → Steps p.tables e below (T.setTop g) target) ∨
    (∃ (q : Addr) (vm₁ : Vm) (B : Pt), s.WarmedH vm₁ ∧ Stand p l e R s m args below meth c B.U B.locs B.cells B.slots ∧ PostX ⟨T.setVm vm₁, locs, cells, slots⟩ (Value.ref b :: argsL).toArray q B ∧
      Steps p.tables e below (T.setTop g) ((B.U.setTop { g with stack := rest }).pushFrame (.throwing q))) := by
  obtain ⟨r0, r, hn, hrm, hstR, hsigR⟩ := hd0
  obtain ⟨cn, ck, r1, hcn, hck, hni, hf, hn1⟩ := Cond.sameMethod_found hsame
  cases hn.symm.trans hn1
  obtain ⟨mk, methM, hnamed, hmethM, -, habM⟩ := Cond.instanceMethod_spec hinst
  obtain ⟨c2, r2, m2, q1, q2, q3, q4, kP, hkP, hkPi⟩ := Cond.selects_spec hsel
  cases hcls.symm.trans q1
  cases hf.symm.trans q2
  cases hnamed.symm.trans q3
  have hselP : selectMethod e.platform s.vm cellB.cls r0 = .method mk := by rw [Launch.admits_selectMethod X.admits]; exact q4
  obtain ⟨vm₁, X₁, hstep₁⟩ := X.invokevirtualUp hexec hown hlink hsame howner hn hrm hstR (a := b) (cell := cellB) hcell
    (fun z h => by rw [h] at hobj; cases hobj) hselP hmethM habM hkP hkPi (g := g) hg (argsL := argsL) (rest := rest) (hlen _ hsigR) hstack hdg
  rcases hK m meth c ⟨T.setVm vm₁, locs, cells, slots⟩ { g with stack := rest } (.invokevirtual index) mk (Value.ref b :: argsL).toArray X₁ hg hsize hdg hW (X₁.named hnamed) (hpre vm₁ X₁.warmed) with ⟨v, B, X', hpost, hsteps⟩ | ⟨q, B, X', hpost, hsteps⟩
  · exact Or.inl ⟨v, vm₁, B, X₁.warmed, X', hpost, fun target h => hstep₁ _ fun acts => by rw [doInvoke_state]; exact hsteps.trans h⟩
  · exact Or.inr ⟨q, vm₁, B, X₁.warmed, X', hpost, hstep₁ _ fun acts => by rw [doInvoke_state]; exact hsteps⟩
theorem vx_runU {x y : MethodName} {bytes cc : ByteArray} {maxL nL mc ms n index : Nat} {ret : Option FieldType} {ws : List Cond} {rm : Room} {Pc : Array Value → State → Prop} {Qc : Array Value → State → Outcome → State → Prop} {XC : String → State → State → Prop} {free : Addr → Prop} {Ts : List Cond} {own C owner : String} {b : Addr} {As rest : List Value} {g : JFrame}
    (S : CallFix p m c cc nL s args Ts own) (hM : vx_Met l y ws rm Pc Qc XC mc ms free) (cw : va_CU R s args own C owner index x y bytes maxL ret ws rm mc ms n) (hp : PreV s H C b Pc As)
    (hg : g.method = m) (hn : As.length = n) (hsize : g.locals.size = nL) (hstack : g.stack = As.reverse ++ .ref b :: rest) (hW : 2 * g.monitorRoom + (rest.map fun v => v.category).sum ≤ 8) (hdg : decode cc g.pc = .ok (.invokevirtual index, 3)) (hf : cells + mc ≤ R.cells ∧ slots + ms ≤ R.slots) :
    vx_Run p l e R s m args below meth c H locs cells slots mc ms g rest (Qc (Value.ref b :: As).toArray) XC free := by
  obtain ⟨hrc, hrs, hfr, hlo, hws, hcw⟩ := cw.back
  have hini := cw.init
  have hK : vx_Back l R p e below s args y 3 8 (PreOf R mc ms Pc) (PostOf Qc mc ms free) (vx_Post XC mc ms free) := vx_back (bytes := bytes) (maxL := maxL) (ret := ret) hM hp.1 hrc hrs hfr hlo hws hcw (fun a' U hW => word_at hW (Or.inl (by first | rfl | simp [Cond.onTables, Cond.keeps, Cond.steady])) hini)
  obtain ⟨hx, hb, hml, ho, -⟩ := S
  obtain ⟨-, ⟨cellB, hcB, hoB, hclB⟩, hPc⟩ := hp
  intro T hT X
  rcases vx_callVU X hx (C := C) (owner := owner) (bytes := bytes) (maxL := maxL) (ret := ret) ho cw.link cw.same cw.decl cw.notMH cw.sel cw.inst cw.code hK (by rw [hT]; exact hcB) hoB hclB hg (hsize.trans hml.symm) (argsL := As) (rest := rest) (fun sig h => hn.trans (cw.len sig h)) hstack hW (by rw [hb]; exact hdg)
    (fun vm₁ hW₁ => ⟨hf.1, hf.2, hPc (T.setVm vm₁) hT hW₁⟩) with ⟨v, vm₁, ⟨U', l2, c2, s2⟩, hW₁, X', ⟨g', mk, t, L, e1, e2, hq, h1, hL, h2, h3⟩, st⟩ | ⟨q, vm₁, ⟨U', l2, c2, s2⟩, hW₁, X', ⟨g', mk, t, L, E, ce, e1, e2, hq, hce, hcv, hcl, h1, hL, h2, h3⟩, st⟩
  · dsimp only [Pt.U, Pt.locs, Pt.cells, Pt.slots] at X' e1 e2 h1 h2 h3 st
    subst h1; subst h2; subst h3
    exact Or.inl ⟨v, (T.setVm vm₁).calling g' mk (Value.ref b :: As).toArray, t, U', L, hT, X', hL, e1, e2, hq, st⟩
  · dsimp only [Pt.U, Pt.locs, Pt.cells, Pt.slots] at X' e1 e2 h1 h2 h3 st hcl
    subst h1; subst h2; subst h3
    exact Or.inr ⟨q, (T.setVm vm₁).calling g' mk (Value.ref b :: As).toArray, t, U', L, E, ce, hT, X', hL, e1, e2, hq, hce, hcv, vx_cls hW₁ hcl, st⟩
end
/-! ===== END ===== -/
/-! ===== BEGIN super.m(..) that may throw (follows va_callSU, va_runSU) ===== -/
section
variable {p : Program} {l : Launch} {e : Env} {R : Room} {s : State} {m : MethodId} {args : Array Value} {below : List Frame} {meth : Method} {c : Code} {H : Heap} {locs : List Loc} {cells slots : Nat}
theorem vx_callSU {T : State} {locs : List Loc} {cells slots : Nat} (X : Stand p l e R s m args below meth c T locs cells slots) (hexec : p.tables.exec = Jvm.exec) {own : String} {index : Nat} {y : MethodName} {bytes : ByteArray} {maxL : Nat} {ret : Option FieldType}
    (hown : s.vm.findClass own = some m.cls) (hlink : (Cond.methodLink own index y).before args s = true) (hsame : (Cond.sameMethod y.cls y.cls y.name y.desc).before args s = true) (hsup : (Cond.superclass own y.cls).before args s = true)
    (hinst : (Cond.instanceMethod y).before args s = true) (hcode : (Cond.code y bytes maxL ret).before args s = true) (hno : y.name ≠ "<init>")
    {W : Nat} {Pre : Pt → Array Value → Prop} {Post : Pt → Array Value → Option Value → Pt → Prop} {PostX : Pt → Array Value → Addr → Pt → Prop} (hK : vx_Back l R p e below s args y 3 W Pre Post PostX)
    {b : Addr} {cellB : Cell} {kB : Class} (hcell : T.heap[b]? = some cellB) (hobj : cellB.vm.isStatics = false) (hkB : s.vm.classes[cellB.cls]? = some kB)
    {g : JFrame} (hg : g.method = m) (hsize : g.locals.size = c.maxLocals) {argsL rest : List Value} (hlen : ∀ sig, parseMethodDescriptor y.desc = some sig → argsL.length = sig.parameters.length)
    (hstack : g.stack = argsL.reverse ++ .ref b :: rest) (hW : 2 * g.monitorRoom + (rest.map fun v => v.category).sum ≤ W) (hdg : decode c.code g.pc = .ok (.invokespecial index, 3))
    (hpre : ∀ vm₁, s.WarmedH vm₁ → Pre ⟨T.setVm vm₁, locs, cells, slots⟩ (Value.ref b :: argsL).toArray) :
    (∃ (v : Option Value) (vm₁ : Vm) (B : Pt), s.WarmedH vm₁ ∧ Stand p l e R s m args below meth c B.U B.locs B.cells B.slots ∧ Post ⟨T.setVm vm₁, locs, cells, slots⟩ (Value.ref b :: argsL).toArray v B ∧
      ∀ target, Steps p.tables e below (B.U.setTop { g with pc := g.pc + 3, stack := v.toList ++ rest }) target → Steps p.tables e below (T.setTop g) target) ∨
    (∃ (q : Addr) (vm₁ : Vm) (B : Pt), s.WarmedH vm₁ ∧ Stand p l e R s m args below meth c B.U B.locs B.cells B.slots ∧ PostX ⟨T.setVm vm₁, locs, cells, slots⟩ (Value.ref b :: argsL).toArray q B ∧
      Steps p.tables e below (T.setTop g) ((B.U.setTop { g with stack := rest }).pushFrame (.throwing q))) := by
  obtain ⟨mk, methM, hnamed, hmethM, hstM, habM⟩ := Cond.instanceMethod_spec hinst
  obtain ⟨methM', cM, hmethM', -, -, -, -, -, -, hsigM⟩ := Cond.code_spec hnamed hcode
  cases hmethM.symm.trans hmethM'
  obtain ⟨ps, dk, kp, hps, hdk, hkp, hsuper, -, -, hnid⟩ := Cond.superclass_spec hown hsup
  have hn : s.methodNamed? ⟨y.cls, y.name, y.desc⟩ = some mk := hnamed
  have hpm : ps = mk.cls := Option.some.inj (hps.symm.trans (findClass_of_methodNamed hnamed))
  have hsub : s.vm.isSubclass ps mk.cls = true := by rw [hpm]; simp [Vm.isSubclass, Vm.isSubclassAux]
  obtain ⟨vm₁, X₁, hstep₁⟩ := X.invokespecialUp hexec hown hlink hsame hn hmethM hstM habM hno hdk hnid hps hsuper hsub (a := b) (cell := cellB) hcell
    (fun z h => by rw [h] at hobj; cases hobj) hkB (g := g) hg (argsL := argsL) (rest := rest) (hlen _ hsigM) hstack hdg
  rcases hK m meth c ⟨T.setVm vm₁, locs, cells, slots⟩ { g with stack := rest } (.invokespecial index) mk (Value.ref b :: argsL).toArray X₁ hg hsize hdg hW (X₁.named hnamed) (hpre vm₁ X₁.warmed) with ⟨v, B, X', hpost, hsteps⟩ | ⟨q, B, X', hpost, hsteps⟩
  · exact Or.inl ⟨v, vm₁, B, X₁.warmed, X', hpost, fun target h => hstep₁ _ (by rw [doInvoke_state]; exact hsteps.trans h)⟩
  · exact Or.inr ⟨q, vm₁, B, X₁.warmed, X', hpost, hstep₁ _ (by rw [doInvoke_state]; exact hsteps)⟩
theorem vx_runSU {y : MethodName} {bytes cc : ByteArray} {maxL nL mc ms n index : Nat} {ret : Option FieldType} {ws : List Cond} {rm : Room} {Pc : Array Value → State → Prop} {Qc : Array Value → State → Outcome → State → Prop} {XC : String → State → State → Prop} {free : Addr → Prop} {Ts : List Cond} {own C : String} {cC : ClassId} {b : Addr} {As rest : List Value} {g : JFrame}
    (hat : ClassAt s C cC) (S : CallFix p m c cc nL s args Ts own) (hM : vx_Met l y ws rm Pc Qc XC mc ms free) (cw : va_CS R s args own index y bytes maxL ret ws rm mc ms n) (hp : PreV s H C b Pc As)
    (hg : g.method = m) (hn : As.length = n) (hsize : g.locals.size = nL) (hstack : g.stack = As.reverse ++ .ref b :: rest) (hW : 2 * g.monitorRoom + (rest.map fun v => v.category).sum ≤ 8) (hdg : decode cc g.pc = .ok (.invokespecial index, 3)) (hf : cells + mc ≤ R.cells ∧ slots + ms ≤ R.slots) :
    vx_Run p l e R s m args below meth c H locs cells slots mc ms g rest (Qc (Value.ref b :: As).toArray) XC free := by
  obtain ⟨⟨hrc, hrs, hfr, hlo, hws, hcw⟩, hl1, hl2, hl3, hl4, hini, hcode, hno, hlen⟩ := cw
  have hK : vx_Back l R p e below s args y 3 8 (PreOf R mc ms Pc) (PostOf Qc mc ms free) (vx_Post XC mc ms free) := vx_back (bytes := bytes) (maxL := maxL) (ret := ret) hM hp.1 hrc hrs hfr hlo hws hcw (fun a' U hW => word_at hW (Or.inl (by first | rfl | simp [Cond.onTables, Cond.keeps, Cond.steady])) hini)
  obtain ⟨hx, hb, hml, ho, -⟩ := S
  obtain ⟨-, ⟨cellB, hcB, hoB, hclB⟩, hPc⟩ := hp
  obtain ⟨hfc, kB, hkB, -⟩ := hat
  cases hfc.symm.trans hclB
  intro T hT X
  rcases vx_callSU X hx (bytes := bytes) (maxL := maxL) (ret := ret) ho hl1 hl2 hl3 hl4 hcode hno hK (by rw [hT]; exact hcB) hoB hkB hg (hsize.trans hml.symm) (argsL := As) (rest := rest) (fun sig h => hn.trans (hlen sig h)) hstack hW (by rw [hb]; exact hdg)
    (fun vm₁ hW₁ => ⟨hf.1, hf.2, hPc (T.setVm vm₁) hT hW₁⟩) with ⟨v, vm₁, ⟨U', l2, c2, s2⟩, hW₁, X', ⟨g', mk, t, L, e1, e2, hq, h1, hL, h2, h3⟩, st⟩ | ⟨q, vm₁, ⟨U', l2, c2, s2⟩, hW₁, X', ⟨g', mk, t, L, E, ce, e1, e2, hq, hce, hcv, hcl, h1, hL, h2, h3⟩, st⟩
  · dsimp only [Pt.U, Pt.locs, Pt.cells, Pt.slots] at X' e1 e2 h1 h2 h3 st
    subst h1; subst h2; subst h3
    exact Or.inl ⟨v, (T.setVm vm₁).calling g' mk (Value.ref b :: As).toArray, t, U', L, hT, X', hL, e1, e2, hq, st⟩
  · dsimp only [Pt.U, Pt.locs, Pt.cells, Pt.slots] at X' e1 e2 h1 h2 h3 st hcl
    subst h1; subst h2; subst h3
    exact Or.inr ⟨q, (T.setVm vm₁).calling g' mk (Value.ref b :: As).toArray, t, U', L, E, ce, hT, X', hL, e1, e2, hq, hce, hcv, vx_cls hW₁ hcl, st⟩
end
/-! ===== END ===== -/
/-! ===== BEGIN a private method of a nest mate that may throw (follows va_callVN, va_callSN, va_runVN, va_runSN) ===== -/
section
variable {p : Program} {l : Launch} {e : Env} {R : Room} {s : State} {m : MethodId} {args : Array Value} {below : List Frame} {meth : Method} {c : Code} {H : Heap} {locs : List Loc} {cells slots : Nat}
variable {T : State}
theorem vx_callVN (X : Stand p l e R s m args below meth c T locs cells slots) (hexec : p.tables.exec = Jvm.exec) {own C : String} {index : Nat} {host : String} {y : MethodName} {bytes : ByteArray} {maxL : Nat} {ret : Option FieldType}
    (hown : s.vm.findClass own = some m.cls) (hlink : (Cond.methodLinkNest own index y host).before args s = true) (hinst : (Cond.instanceMethod y).before args s = true) (hsel : (Cond.selects C y y).before args s = true)
    (hcode : (Cond.code y bytes maxL ret).before args s = true) (hy : y.cls ≠ "java/lang/invoke/MethodHandle" ∧ y.cls ≠ "java/lang/invoke/VarHandle")
    {W : Nat} {Pre : Pt → Array Value → Prop} {Post : Pt → Array Value → Option Value → Pt → Prop} {PostX : Pt → Array Value → Addr → Pt → Prop} (hK : vx_Back l R p e below s args y 3 W Pre Post PostX)
    {b : Addr} {cellB : Cell} (hcell : T.heap[b]? = some cellB) (hobj : cellB.vm.isStatics = false) (hcls : s.vm.findClass C = some cellB.cls)
    {g : JFrame} (hg : g.method = m) (hsize : g.locals.size = c.maxLocals) {argsL rest : List Value} (hlen : ∀ sig, parseMethodDescriptor y.desc = some sig → argsL.length = sig.parameters.length)
    (hstack : g.stack = argsL.reverse ++ .ref b :: rest) (hW : 2 * g.monitorRoom + (rest.map fun v => v.category).sum ≤ W) (hdg : decode c.code g.pc = .ok (.invokevirtual index, 3))
    (hpre : ∀ vm₁, s.WarmedH vm₁ → Pre ⟨T.setVm vm₁, locs, cells, slots⟩ (Value.ref b :: argsL).toArray) :
    (∃ (v : Option Value) (vm₁ : Vm) (B : Pt), s.WarmedH vm₁ ∧ Stand p l e R s m args below meth c B.U B.locs B.cells B.slots ∧ Post ⟨T.setVm vm₁, locs, cells, slots⟩ (Value.ref b :: argsL).toArray v B ∧
      ∀ target, Steps p.tables e below (B.U.setTop { g with pc := g.pc + 3, stack := v.toList ++ rest }) target → Steps p.tables e below (T.setTop g) target) ∨
    (∃ (q : Addr) (vm₁ : Vm) (B : Pt), s.WarmedH vm₁ ∧ Stand p l e R s m args below meth c B.U B.locs B.cells B.slots ∧ PostX ⟨T.setVm vm₁, locs, cells, slots⟩ (Value.ref b :: argsL).toArray q B ∧
      Steps p.tables e below (T.setTop g) ((B.U.setTop { g with stack := rest }).pushFrame (.throwing q))) := by
  obtain ⟨mk, methM, hnamed, hmethM, hstM, habM⟩ := Cond.instanceMethod_spec hinst
  obtain ⟨methM', cM, hmethM', -, -, -, -, -, -, hsigM⟩ := Cond.code_spec hnamed hcode
  cases hmethM.symm.trans hmethM'
  obtain ⟨c2, r2, m2, q1, q2, q3, q4, kP, hkP, hkPi⟩ := Cond.selects_spec hsel
  cases hcls.symm.trans q1
  cases (State.methodFound?_of_named hnamed hy).symm.trans q2
  cases hnamed.symm.trans q3
  have hselP : selectMethod e.platform s.vm cellB.cls mk = .method mk := by rw [Launch.admits_selectMethod X.admits]; exact q4
  obtain ⟨vm₁, X₁, hstep₁⟩ := X.invokevirtualNest hexec hown hlink hnamed hmethM hstM hkP hkPi hy (a := b) (cell := cellB) hcell
    (fun z h => by rw [h] at hobj; cases hobj) hselP hmethM habM hkP hkPi (g := g) hg (argsL := argsL) (rest := rest) (hlen _ hsigM) hstack hdg
  rcases hK m meth c ⟨T.setVm vm₁, locs, cells, slots⟩ { g with stack := rest } (.invokevirtual index) mk (Value.ref b :: argsL).toArray X₁ hg hsize hdg hW (X₁.named hnamed) (hpre vm₁ X₁.warmed) with ⟨v, B, X', hpost, hsteps⟩ | ⟨q, B, X', hpost, hsteps⟩
  · exact Or.inl ⟨v, vm₁, B, X₁.warmed, X', hpost, fun target h => hstep₁ _ fun acts => by rw [doInvoke_state]; exact hsteps.trans h⟩
  · exact Or.inr ⟨q, vm₁, B, X₁.warmed, X', hpost, hstep₁ _ fun acts => by rw [doInvoke_state]; exact hsteps⟩
theorem vx_callSN (X : Stand p l e R s m args below meth c T locs cells slots) (hexec : p.tables.exec = Jvm.exec) {own : String} {index : Nat} {host : String} {y : MethodName} {bytes : ByteArray} {maxL : Nat} {ret : Option FieldType}
    (hown : s.vm.findClass own = some m.cls) (hlink : (Cond.methodLinkNest own index y host).before args s = true) (hstat : (Cond.static y).before args s = true) (hinit : (Cond.initialized y.cls).before args s = true)
    (hcode : (Cond.code y bytes maxL ret).before args s = true) (hy : y.cls ≠ "java/lang/invoke/MethodHandle" ∧ y.cls ≠ "java/lang/invoke/VarHandle")
    {W : Nat} {Pre : Pt → Array Value → Prop} {Post : Pt → Array Value → Option Value → Pt → Prop} {PostX : Pt → Array Value → Addr → Pt → Prop} (hK : vx_Back l R p e below s args y 3 W Pre Post PostX)
    {g : JFrame} (hg : g.method = m) (hsize : g.locals.size = c.maxLocals) {argsL rest : List Value} (hlen : ∀ sig, parseMethodDescriptor y.desc = some sig → argsL.length = sig.parameters.length)
    (hstack : g.stack = argsL.reverse ++ rest) (hW : 2 * g.monitorRoom + (rest.map fun v => v.category).sum ≤ W) (hdg : decode c.code g.pc = .ok (.invokestatic index, 3))
    (hpre : ∀ vm₁, s.WarmedH vm₁ → Pre ⟨T.setVm vm₁, locs, cells, slots⟩ argsL.toArray) :
    (∃ (v : Option Value) (vm₁ : Vm) (B : Pt), s.WarmedH vm₁ ∧ Stand p l e R s m args below meth c B.U B.locs B.cells B.slots ∧ Post ⟨T.setVm vm₁, locs, cells, slots⟩ argsL.toArray v B ∧
      ∀ target, Steps p.tables e below (B.U.setTop { g with pc := g.pc + 3, stack := v.toList ++ rest }) target → Steps p.tables e below (T.setTop g) target) ∨
    (∃ (q : Addr) (vm₁ : Vm) (B : Pt), s.WarmedH vm₁ ∧ Stand p l e R s m args below meth c B.U B.locs B.cells B.slots ∧ PostX ⟨T.setVm vm₁, locs, cells, slots⟩ argsL.toArray q B ∧
      Steps p.tables e below (T.setTop g) ((B.U.setTop { g with stack := rest }).pushFrame (.throwing q))) := by
  obtain ⟨mk, hnamed⟩ := Cond.code_named hcode
  obtain ⟨methM, cM, hmethM, -, -, -, -, -, -, hsigM⟩ := Cond.code_spec hnamed hcode
  have hstatic : methM.isStatic = true := Cond.static_spec hnamed hmethM hstat
  obtain ⟨kP, hkP, -⟩ := className_of_methodNamed hnamed
  have hinitP : kP.init = .initialized := Cond.initialized_spec (findClass_of_methodNamed hnamed) hkP hinit
  obtain ⟨vm₁, X₁, hstep₁⟩ := X.invokestaticNest hexec hown hlink hnamed hmethM hstatic hkP hinitP hy (g := g) hg (argsL := argsL) (rest := rest) (hlen _ hsigM) hstack hdg
  rcases hK m meth c ⟨T.setVm vm₁, locs, cells, slots⟩ { g with stack := rest } (.invokestatic index) mk argsL.toArray X₁ hg hsize hdg hW (X₁.named hnamed) (hpre vm₁ X₁.warmed) with ⟨v, B, X', hpost, hsteps⟩ | ⟨q, B, X', hpost, hsteps⟩
  · exact Or.inl ⟨v, vm₁, B, X₁.warmed, X', hpost, fun target h => hstep₁ _ fun acts => by rw [doInvoke_state]; exact hsteps.trans h⟩
  · exact Or.inr ⟨q, vm₁, B, X₁.warmed, X', hpost, hstep₁ _ fun acts => by rw [doInvoke_state]; exact hsteps⟩
theorem vx_runVN {y : MethodName} {bytes cc : ByteArray} {maxL nL mc ms n index : Nat} {ret : Option FieldType} {ws : List Cond} {rm : Room} {Pc : Array Value → State → Prop} {Qc : Array Value → State → Outcome → State → Prop} {XC : String → State → State → Prop} {free : Addr → Prop} {Ts : List Cond} {own C host : String} {b : Addr} {As rest : List Value} {g : JFrame}
    (S : CallFix p m c cc nL s args Ts own) (hM : vx_Met l y ws rm Pc Qc XC mc ms free) (cw : va_CN R s args own index y host bytes maxL ret ws rm mc ms n ∧ (Cond.instanceMethod y).before args s = true ∧ (Cond.selects C y y).before args s = true) (hp : PreV s H C b Pc As)
    (hg : g.method = m) (hn : As.length = n) (hsize : g.locals.size = nL) (hstack : g.stack = As.reverse ++ .ref b :: rest) (hW : 2 * g.monitorRoom + (rest.map fun v => v.category).sum ≤ 8) (hdg : decode cc g.pc = .ok (.invokevirtual index, 3)) (hf : cells + mc ≤ R.cells ∧ slots + ms ≤ R.slots) :
    vx_Run p l e R s m args below meth c H locs cells slots mc ms g rest (Qc (Value.ref b :: As).toArray) XC free := by
  obtain ⟨⟨⟨hrc, hrs, hfr, hlo, hws, hcw⟩, hcode, hini, hy, hlen, hl⟩, hx1, hx2⟩ := cw
  have hK : vx_Back l R p e below s args y 3 8 (PreOf R mc ms Pc) (PostOf Qc mc ms free) (vx_Post XC mc ms free) := vx_back (bytes := bytes) (maxL := maxL) (ret := ret) hM hp.1 hrc hrs hfr hlo hws hcw (fun a' U hW => word_at hW (Or.inl (by first | rfl | simp [Cond.onTables, Cond.keeps, Cond.steady])) hini)
  obtain ⟨hx, hb, hml, ho, -⟩ := S
  obtain ⟨-, ⟨cellB, hcB, hoB, hclB⟩, hPc⟩ := hp
  intro T hT X
  rcases vx_callVN X hx (C := C) (bytes := bytes) (maxL := maxL) (ret := ret) ho hl hx1 hx2 hcode hy hK (by rw [hT]; exact hcB) hoB hclB hg (hsize.trans hml.symm) (argsL := As) (rest := rest) (fun sig h => hn.trans (hlen sig h)) hstack hW (by rw [hb]; exact hdg)
    (fun vm₁ hW₁ => ⟨hf.1, hf.2, hPc (T.setVm vm₁) hT hW₁⟩) with ⟨v, vm₁, ⟨U', l2, c2, s2⟩, hW₁, X', ⟨g', mk, t, L, e1, e2, hq, h1, hL, h2, h3⟩, st⟩ | ⟨q, vm₁, ⟨U', l2, c2, s2⟩, hW₁, X', ⟨g', mk, t, L, E, ce, e1, e2, hq, hce, hcv, hcl, h1, hL, h2, h3⟩, st⟩
  · dsimp only [Pt.U, Pt.locs, Pt.cells, Pt.slots] at X' e1 e2 h1 h2 h3 st
    subst h1; subst h2; subst h3
    exact Or.inl ⟨v, (T.setVm vm₁).calling g' mk (Value.ref b :: As).toArray, t, U', L, hT, X', hL, e1, e2, hq, st⟩
  · dsimp only [Pt.U, Pt.locs, Pt.cells, Pt.slots] at X' e1 e2 h1 h2 h3 st hcl
    subst h1; subst h2; subst h3
    exact Or.inr ⟨q, (T.setVm vm₁).calling g' mk (Value.ref b :: As).toArray, t, U', L, E, ce, hT, X', hL, e1, e2, hq, hce, hcv, vx_cls hW₁ hcl, st⟩
theorem vx_runSN {y : MethodName} {bytes cc : ByteArray} {maxL nL mc ms n index : Nat} {ret : Option FieldType} {ws : List Cond} {rm : Room} {Pc : Array Value → State → Prop} {Qc : Array Value → State → Outcome → State → Prop} {XC : String → State → State → Prop} {free : Addr → Prop} {Ts : List Cond} {own host : String} {As rest : List Value} {g : JFrame}
    (S : CallFix p m c cc nL s args Ts own) (hM : vx_Met l y ws rm Pc Qc XC mc ms free) (cw : va_CN R s args own index y host bytes maxL ret ws rm mc ms n ∧ (Cond.static y).before args s = true ∧ True) (hp : PreS s H Pc As)
    (hg : g.method = m) (hn : As.length = n) (hsize : g.locals.size = nL) (hstack : g.stack = As.reverse ++ rest) (hW : 2 * g.monitorRoom + (rest.map fun v => v.category).sum ≤ 8) (hdg : decode cc g.pc = .ok (.invokestatic index, 3)) (hf : cells + mc ≤ R.cells ∧ slots + ms ≤ R.slots) :
    vx_Run p l e R s m args below meth c H locs cells slots mc ms g rest (Qc As.toArray) XC free := by
  obtain ⟨⟨⟨hrc, hrs, hfr, hlo, hws, hcw⟩, hcode, hini, hy, hlen, hl⟩, hx1, hx2⟩ := cw
  have hK : vx_Back l R p e below s args y 3 8 (PreOf R mc ms Pc) (PostOf Qc mc ms free) (vx_Post XC mc ms free) := vx_back (bytes := bytes) (maxL := maxL) (ret := ret) hM hp.1 hrc hrs hfr hlo hws hcw (fun a' U hW => word_at hW (Or.inl (by first | rfl | simp [Cond.onTables, Cond.keeps, Cond.steady])) hini)
  obtain ⟨hx, hb, hml, ho, -⟩ := S
  have hPc := hp.2
  intro T hT X
  rcases vx_callSN X hx (bytes := bytes) (maxL := maxL) (ret := ret) ho hl hx1 hini hcode hy hK hg (hsize.trans hml.symm) (argsL := As) (rest := rest) (fun sig h => hn.trans (hlen sig h)) hstack hW (by rw [hb]; exact hdg)
    (fun vm₁ hW₁ => ⟨hf.1, hf.2, hPc (T.setVm vm₁) hT hW₁⟩) with ⟨v, vm₁, ⟨U', l2, c2, s2⟩, hW₁, X', ⟨g', mk, t, L, e1, e2, hq, h1, hL, h2, h3⟩, st⟩ | ⟨q, vm₁, ⟨U', l2, c2, s2⟩, hW₁, X', ⟨g', mk, t, L, E, ce, e1, e2, hq, hce, hcv, hcl, h1, hL, h2, h3⟩, st⟩
  · dsimp only [Pt.U, Pt.locs, Pt.cells, Pt.slots] at X' e1 e2 h1 h2 h3 st
    subst h1; subst h2; subst h3
    exact Or.inl ⟨v, (T.setVm vm₁).calling g' mk As.toArray, t, U', L, hT, X', hL, e1, e2, hq, st⟩
  · dsimp only [Pt.U, Pt.locs, Pt.cells, Pt.slots] at X' e1 e2 h1 h2 h3 st hcl
    subst h1; subst h2; subst h3
    exact Or.inr ⟨q, (T.setVm vm₁).calling g' mk As.toArray, t, U', L, E, ce, hT, X', hL, e1, e2, hq, hce, hcv, vx_cls hW₁ hcl, st⟩
end
/-! ===== END ===== -/
/-! ===== BEGIN calls by an interface of methods that may throw (vx_callIF, vx_runF follow va_callIF, va_runF of this kit) ===== -/
section
variable {p : Program} {l : Launch} {e : Env} {R : Room} {s : State} {m : MethodId} {args : Array Value} {below : List Frame} {meth : Method} {c : Code} {H : Heap} {locs : List Loc} {cells slots : Nat} {Q : State → Prop}
variable {mc ms : Nat} {free : Addr → Prop} {A0 A1 : Nat → Prop} {H0 : Heap} {a : Array Value} {pc : Nat} {ls : Array Slot} {st0 rest : List Value}
def vx_Run5 (p : Program) (l : Launch) (e : Env) (R : Room) (s : State) (m : MethodId) (args : Array Value) (below : List Frame) (meth : Method) (c : Code) (H : Heap) (locs : List Loc) (cells slots mc ms : Nat) (g : JFrame) (rest : List Value) (Qa : State → Outcome → State → Prop) (XC : String → State → State → Prop) (free : Addr → Prop) : Prop :=
  ∀ T : State, T.heap = H → Stand p l e R s m args below meth c T locs cells slots →
    (∃ (v : Option Value) (st₀ t T' : State) (L : List Loc), st₀.heap = H ∧ Stand p l e R s m args below meth c T' (locs ++ L) (cells + mc) (slots + ms) ∧ (∀ q ∈ L, free q.base) ∧ T'.heap = t.heap ∧ T'.vm = t.vm ∧ Qa st₀ (.returned v) t ∧
      Goes p e below T g T' { g with pc := g.pc + 5, stack := v.toList ++ rest }) ∨
    (∃ (q : Addr) (st₀ t T' : State) (L : List Loc) (E : String) (ce : Cell), st₀.heap = H ∧ Stand p l e R s m args below meth c T' (locs ++ L) (cells + mc) (slots + ms) ∧ (∀ z ∈ L, free z.base) ∧ T'.heap = t.heap ∧ T'.vm = t.vm ∧ XC E st₀ t ∧ t.heap[q]? = some ce ∧ ce.vm = .none ∧ s.vm.findClass E = some ce.cls ∧
      Steps p.tables e below (T.setTop g) ((T'.setTop { g with stack := rest }).pushFrame (.throwing q)))
theorem vx_callIF {T : State} (X : Stand p l e R s m args below meth c T locs cells slots) (hexec : p.tables.exec = Jvm.exec) {own C : String} {index count : Nat} {x y : MethodName} {bytes : ByteArray} {maxL : Nat} {ret : Option FieldType}
    (hown : s.vm.findClass own = some m.cls) (hlink : (Cond.methodLink own index x).before args s = true) (hdecl : (Cond.declares x).before args s = true) (hface : (Cond.interfaceMethod x.cls x.cls x.name x.desc).before args s = true)
    (hsel : (Cond.selects C x y).before args s = true) (hinst : (Cond.instanceMethod y).before args s = true) (hpub : (Cond.publicMethod y).before args s = true) (hunh : (Cond.unhidden C x.name x.desc).before args s = true)
    (hcast : (Cond.castable C x.cls).before args s = true) (hcode : (Cond.code y bytes maxL ret).before args s = true) (hx : x.cls ≠ "java/lang/invoke/MethodHandle" ∧ x.cls ≠ "java/lang/invoke/VarHandle")
    {W9 : Nat} {Pre : Pt → Array Value → Prop} {Post : Pt → Array Value → Option Value → Pt → Prop} {PostX : Pt → Array Value → Addr → Pt → Prop} (hK : vx_Back l R p e below s args y 5 W9 Pre Post PostX)
    {b : Addr} {cellB : Cell} {kB : Class} (hcell : T.heap[b]? = some cellB) (hobj : cellB.vm.isStatics = false) (hcls : s.vm.findClass C = some cellB.cls) (hkB : s.vm.classes[cellB.cls]? = some kB)
    {g : JFrame} (hg : g.method = m) (hsize : g.locals.size = c.maxLocals) {argsL rest : List Value} (hlen : ∀ sig, parseMethodDescriptor x.desc = some sig → argsL.length = sig.parameters.length)
    (hstack : g.stack = argsL.reverse ++ .ref b :: rest) (hW : 2 * g.monitorRoom + (rest.map fun v => v.category).sum ≤ W9) (hdg : decode c.code g.pc = .ok (.invokeinterface index count, 5))
    (hpre : ∀ vm₁, s.WarmedH vm₁ → Pre ⟨T.setVm vm₁, locs, cells, slots⟩ (Value.ref b :: argsL).toArray) :
    (∃ (v : Option Value) (vm₁ : Vm) (B : Pt), s.WarmedH vm₁ ∧ Stand p l e R s m args below meth c B.U B.locs B.cells B.slots ∧ Post ⟨T.setVm vm₁, locs, cells, slots⟩ (Value.ref b :: argsL).toArray v B ∧
      ∀ target, Steps p.tables e below (B.U.setTop { g with pc := g.pc + 5, stack := v.toList ++ rest }) target → Steps p.tables e below (T.setTop g) target) ∨
    (∃ (q : Addr) (vm₁ : Vm) (B : Pt), s.WarmedH vm₁ ∧ Stand p l e R s m args below meth c B.U B.locs B.cells B.slots ∧ PostX ⟨T.setVm vm₁, locs, cells, slots⟩ (Value.ref b :: argsL).toArray q B ∧
      Steps p.tables e below (T.setTop g) ((B.U.setTop { g with stack := rest }).pushFrame (.throwing q))) := by
  obtain ⟨r0, r, hn, hrm, hstR, hsigR⟩ := Cond.declares_spec hdecl
  obtain ⟨cL, kL, r1, hcL, hkL, hiL, hfoundL, hn1⟩ := Cond.interfaceMethod_spec hface
  cases hn.symm.trans hn1
  have hr0cls : r0.cls = cL := Option.some.inj ((findClass_of_methodNamed hn).symm.trans hcL)
  obtain ⟨hnameR, hdescR⟩ := name_of_methodNamed hn hrm
  obtain ⟨mk, methM, hnamed, hmethM, -, habM⟩ := Cond.instanceMethod_spec hinst
  obtain ⟨c2, r2, m2, q1, q2, q3, q4, -⟩ := Cond.selects_spec hsel
  cases hcls.symm.trans q1
  cases hfoundL.symm.trans q2
  cases hnamed.symm.trans q3
  have hselP : selectMethod e.platform s.vm cellB.cls r0 = .method mk := by rw [Launch.admits_selectMethod X.admits]; exact q4
  have hpubM : hasFlag methM.accessFlags Acc.public_ = true := Cond.publicMethod_spec hnamed hmethM hpub
  have hway : ((cellB.cls :: s.vm.superclasses cellB.cls).any fun k => (declaredIn s.vm r.name r.desc k).any fun (_, z) => z.isPrivate || z.isStatic) = false := by
    rw [hnameR, hdescR]; exact Cond.unhidden_spec hcls hunh
  obtain ⟨c3, t3, w1, w2, w3⟩ := Cond.castable_spec hcast
  cases hcls.symm.trans w1
  cases hcL.symm.trans w2
  obtain ⟨vm₁, X₁, hstep₁⟩ := X.invokeinterface hexec hown hlink hn hrm hstR (by rw [hr0cls]; exact hkL) hiL hx (a := b) (cell := cellB) (kcell := kB) hcell
    (fun z h => by rw [h] at hobj; cases hobj) hkB (by rw [hr0cls]; exact w3) hselP hmethM hway hpubM habM (g := g) hg (argsL := argsL) (rest := rest) (hlen _ hsigR) hstack hdg
  rcases hK m meth c ⟨T.setVm vm₁, locs, cells, slots⟩ { g with stack := rest } (.invokeinterface index count) mk (Value.ref b :: argsL).toArray X₁ hg hsize hdg hW (X₁.named hnamed) (hpre vm₁ X₁.warmed) with ⟨v, B, X', hpost, hsteps⟩ | ⟨q, B, X', hpost, hsteps⟩
  · exact Or.inl ⟨v, vm₁, B, X₁.warmed, X', hpost, fun target h => hstep₁ _ fun acts => by rw [doInvoke_state]; exact hsteps.trans h⟩
  · exact Or.inr ⟨q, vm₁, B, X₁.warmed, X', hpost, hstep₁ _ fun acts => by rw [doInvoke_state]; exact hsteps⟩
theorem vx_runF {x y : MethodName} {bytes cc : ByteArray} {maxL nL mc ms n index count : Nat} {ret : Option FieldType} {ws : List Cond} {rm : Room} {Pc : Array Value → State → Prop} {Qc : Array Value → State → Outcome → State → Prop} {XC : String → State → State → Prop} {free : Addr → Prop} {Ts : List Cond} {own C : String} {cC : ClassId} {b : Addr} {As rest : List Value} {g : JFrame}
    (hat : ClassAt s C cC) (S : CallFix p m c cc nL s args Ts own) (hM : vx_Met l y ws rm Pc Qc XC mc ms free) (cw : va_CI R s args own C index x y bytes maxL ret ws rm mc ms n) (hp : PreV s H C b Pc As)
    (hg : g.method = m) (hn : As.length = n) (hsize : g.locals.size = nL) (hstack : g.stack = As.reverse ++ .ref b :: rest) (hW : 2 * g.monitorRoom + (rest.map fun v => v.category).sum ≤ 8) (hdg : decode cc g.pc = .ok (.invokeinterface index count, 5)) (hf : cells + mc ≤ R.cells ∧ slots + ms ≤ R.slots) :
    vx_Run5 p l e R s m args below meth c H locs cells slots mc ms g rest (Qc (Value.ref b :: As).toArray) XC free := by
  obtain ⟨hrc, hrs, hfr, hlo, hws, hcw⟩ := cw.back
  have hini := cw.init
  have hK : vx_Back l R p e below s args y 5 8 (PreOf R mc ms Pc) (PostOf Qc mc ms free) (vx_Post XC mc ms free) := vx_back (bytes := bytes) (maxL := maxL) (ret := ret) hM hp.1 hrc hrs hfr hlo hws hcw (fun a' U hW => word_at hW (Or.inl (by first | rfl | simp [Cond.onTables, Cond.keeps, Cond.steady])) hini)
  obtain ⟨hx, hb, hml, ho, -⟩ := S
  obtain ⟨-, ⟨cellB, hcB, hoB, hclB⟩, hPc⟩ := hp
  obtain ⟨hfc, kB, hkB, -⟩ := hat
  cases hfc.symm.trans hclB
  intro T hT X
  rcases vx_callIF X hx (C := C) (bytes := bytes) (maxL := maxL) (ret := ret) ho cw.link cw.decl cw.face cw.sel cw.inst cw.pub cw.unh cw.cast cw.code cw.notMH hK (by rw [hT]; exact hcB) hoB hclB hkB hg (hsize.trans hml.symm) (argsL := As) (rest := rest) (fun sig h => hn.trans (cw.len sig h)) hstack hW (by rw [hb]; exact hdg)
    (fun vm₁ hW₁ => ⟨hf.1, hf.2, hPc (T.setVm vm₁) hT hW₁⟩) with ⟨v, vm₁, ⟨U', l2, c2, s2⟩, hW₁, X', ⟨g', mk, t, L, e1, e2, hq, h1, hL, h2, h3⟩, st⟩ | ⟨q, vm₁, ⟨U', l2, c2, s2⟩, hW₁, X', ⟨g', mk, t, L, E, ce, e1, e2, hq, hce, hcv, hcl, h1, hL, h2, h3⟩, st⟩
  · dsimp only [Pt.U, Pt.locs, Pt.cells, Pt.slots] at X' e1 e2 h1 h2 h3 st
    subst h1; subst h2; subst h3
    exact Or.inl ⟨v, (T.setVm vm₁).calling g' mk (Value.ref b :: As).toArray, t, U', L, hT, X', hL, e1, e2, hq, st⟩
  · dsimp only [Pt.U, Pt.locs, Pt.cells, Pt.slots] at X' e1 e2 h1 h2 h3 st hcl
    subst h1; subst h2; subst h3
    exact Or.inr ⟨q, (T.setVm vm₁).calling g' mk (Value.ref b :: As).toArray, t, U', L, E, ce, hT, X', hL, e1, e2, hq, hce, hcv, vx_cls hW₁ hcl, st⟩
theorem vx_callFv {S SX : Type} {post : S → Prop} {px : SX → Prop} {B : S → State → Prop} {BX : String → SX → State → Prop} {AX : Nat → Prop} (hr : vx_Run5 p l e R s m args below meth c H locs cells slots mc ms (F0 m pc ls st0) rest (va_Qv post B A1 a) (vx_X px BX AX) free) (hS : va_S A0 H0 H locs) (hA : ∀ q, q < H.size → A1 q → A0 q) (hf : ∀ q, free q → A0 q) (hAX : ∀ q, q < H.size → AX q → A0 q)
    (kx : ∀ (E : String) (ce : Cell) (q9 : Addr) (u : SX) (t : State) (H1 : Heap) (locs1 : List Loc), t.heap = H1 → s.vm.Alike t.vm → px u → BX E u t → H.size ≤ H1.size → (∀ q : Nat, q < H.size → ¬ AX q → H1[q]? = H[q]?) → va_S A0 H0 H1 locs1 → H1[q9]? = some ce → ce.vm = .none → s.vm.findClass E = some ce.cls → vx_W p l e R s m args below meth c H1 locs1 (cells + mc) (slots + ms) Q (F0 m pc ls rest) q9)
    (kk : ∀ (u : S) (t : State) (H1 : Heap) (locs1 : List Loc), t.heap = H1 → s.vm.Alike t.vm → post u → B u t → H.size ≤ H1.size → (∀ q : Nat, q < H.size → ¬ A1 q → H1[q]? = H[q]?) → va_S A0 H0 H1 locs1 → W p l e R s m args below meth c H1 locs1 (cells + mc) (slots + ms) Q (F0 m (pc + 5) ls (rest))) : W p l e R s m args below meth c H locs cells slots Q (F0 m pc ls st0) := by
  intro T hT X
  rcases hr T hT X with ⟨v, st₀, t, T', L, h0, X', hL, e1, e2, ⟨⟨u, hv, hp, hb⟩, hF⟩, st⟩ | ⟨q, st₀, t, T', L, E, ce, h0, X', hL, e1, e2, ⟨u, hp, hb, hF⟩, hce, hcv, hcl, st⟩
  · cases hv
    obtain ⟨k1, k2, k3⟩ := vx_keep h0 e1 hS hA hf hL hF
    obtain ⟨t2, a1, b1⟩ := kk u t T'.heap (locs ++ L) e1.symm (by rw [← e2]; exact X'.warmed.alike) hp hb k1 k2 k3 T' rfl X'
    exact ⟨t2, st t2 a1, b1⟩
  · obtain ⟨k1, k2, k3⟩ := vx_keep h0 e1 hS hAX hf hL hF
    obtain ⟨t2, a1, b1⟩ := kx E ce q u t T'.heap (locs ++ L) e1.symm (by rw [← e2]; exact X'.warmed.alike) hp hb k1 k2 k3 (by rw [e1]; exact hce) hcv hcl T' rfl X'
    exact ⟨t2, st.trans a1, b1⟩
theorem vx_callFi {S SX : Type} {post : Int32 → S → Prop} {px : SX → Prop} {B : S → State → Prop} {BX : String → SX → State → Prop} {AX : Nat → Prop} (hr : vx_Run5 p l e R s m args below meth c H locs cells slots mc ms (F0 m pc ls st0) rest (va_Qi post B A1 a) (vx_X px BX AX) free) (hS : va_S A0 H0 H locs) (hA : ∀ q, q < H.size → A1 q → A0 q) (hf : ∀ q, free q → A0 q) (hAX : ∀ q, q < H.size → AX q → A0 q)
    (kx : ∀ (E : String) (ce : Cell) (q9 : Addr) (u : SX) (t : State) (H1 : Heap) (locs1 : List Loc), t.heap = H1 → s.vm.Alike t.vm → px u → BX E u t → H.size ≤ H1.size → (∀ q : Nat, q < H.size → ¬ AX q → H1[q]? = H[q]?) → va_S A0 H0 H1 locs1 → H1[q9]? = some ce → ce.vm = .none → s.vm.findClass E = some ce.cls → vx_W p l e R s m args below meth c H1 locs1 (cells + mc) (slots + ms) Q (F0 m pc ls rest) q9)
    (kk : ∀ (r : Int32) (u : S) (t : State) (H1 : Heap) (locs1 : List Loc), t.heap = H1 → s.vm.Alike t.vm → post r u → B u t → H.size ≤ H1.size → (∀ q : Nat, q < H.size → ¬ A1 q → H1[q]? = H[q]?) → va_S A0 H0 H1 locs1 → W p l e R s m args below meth c H1 locs1 (cells + mc) (slots + ms) Q (F0 m (pc + 5) ls (.int r :: rest))) : W p l e R s m args below meth c H locs cells slots Q (F0 m pc ls st0) := by
  intro T hT X
  rcases hr T hT X with ⟨v, st₀, t, T', L, h0, X', hL, e1, e2, ⟨⟨r, u, hv, hp, hb⟩, hF⟩, st⟩ | ⟨q, st₀, t, T', L, E, ce, h0, X', hL, e1, e2, ⟨u, hp, hb, hF⟩, hce, hcv, hcl, st⟩
  · cases hv
    obtain ⟨k1, k2, k3⟩ := vx_keep h0 e1 hS hA hf hL hF
    obtain ⟨t2, a1, b1⟩ := kk r u t T'.heap (locs ++ L) e1.symm (by rw [← e2]; exact X'.warmed.alike) hp hb k1 k2 k3 T' rfl X'
    exact ⟨t2, st t2 a1, b1⟩
  · obtain ⟨k1, k2, k3⟩ := vx_keep h0 e1 hS hAX hf hL hF
    obtain ⟨t2, a1, b1⟩ := kx E ce q u t T'.heap (locs ++ L) e1.symm (by rw [← e2]; exact X'.warmed.alike) hp hb k1 k2 k3 (by rw [e1]; exact hce) hcv hcl T' rfl X'
    exact ⟨t2, st.trans a1, b1⟩
theorem vx_callFl {S SX : Type} {post : Int64 → S → Prop} {px : SX → Prop} {B : S → State → Prop} {BX : String → SX → State → Prop} {AX : Nat → Prop} (hr : vx_Run5 p l e R s m args below meth c H locs cells slots mc ms (F0 m pc ls st0) rest (va_Ql post B A1 a) (vx_X px BX AX) free) (hS : va_S A0 H0 H locs) (hA : ∀ q, q < H.size → A1 q → A0 q) (hf : ∀ q, free q → A0 q) (hAX : ∀ q, q < H.size → AX q → A0 q)
    (kx : ∀ (E : String) (ce : Cell) (q9 : Addr) (u : SX) (t : State) (H1 : Heap) (locs1 : List Loc), t.heap = H1 → s.vm.Alike t.vm → px u → BX E u t → H.size ≤ H1.size → (∀ q : Nat, q < H.size → ¬ AX q → H1[q]? = H[q]?) → va_S A0 H0 H1 locs1 → H1[q9]? = some ce → ce.vm = .none → s.vm.findClass E = some ce.cls → vx_W p l e R s m args below meth c H1 locs1 (cells + mc) (slots + ms) Q (F0 m pc ls rest) q9)
    (kk : ∀ (r : Int64) (u : S) (t : State) (H1 : Heap) (locs1 : List Loc), t.heap = H1 → s.vm.Alike t.vm → post r u → B u t → H.size ≤ H1.size → (∀ q : Nat, q < H.size → ¬ A1 q → H1[q]? = H[q]?) → va_S A0 H0 H1 locs1 → W p l e R s m args below meth c H1 locs1 (cells + mc) (slots + ms) Q (F0 m (pc + 5) ls (.long r :: rest))) : W p l e R s m args below meth c H locs cells slots Q (F0 m pc ls st0) := by
  intro T hT X
  rcases hr T hT X with ⟨v, st₀, t, T', L, h0, X', hL, e1, e2, ⟨⟨r, u, hv, hp, hb⟩, hF⟩, st⟩ | ⟨q, st₀, t, T', L, E, ce, h0, X', hL, e1, e2, ⟨u, hp, hb, hF⟩, hce, hcv, hcl, st⟩
  · cases hv
    obtain ⟨k1, k2, k3⟩ := vx_keep h0 e1 hS hA hf hL hF
    obtain ⟨t2, a1, b1⟩ := kk r u t T'.heap (locs ++ L) e1.symm (by rw [← e2]; exact X'.warmed.alike) hp hb k1 k2 k3 T' rfl X'
    exact ⟨t2, st t2 a1, b1⟩
  · obtain ⟨k1, k2, k3⟩ := vx_keep h0 e1 hS hAX hf hL hF
    obtain ⟨t2, a1, b1⟩ := kx E ce q u t T'.heap (locs ++ L) e1.symm (by rw [← e2]; exact X'.warmed.alike) hp hb k1 k2 k3 (by rw [e1]; exact hce) hcv hcl T' rfl X'
    exact ⟨t2, st.trans a1, b1⟩
theorem vx_callFf {S SX : Type} {post : UInt32 → S → Prop} {px : SX → Prop} {B : S → State → Prop} {BX : String → SX → State → Prop} {AX : Nat → Prop} (hr : vx_Run5 p l e R s m args below meth c H locs cells slots mc ms (F0 m pc ls st0) rest (va_Qf post B A1 a) (vx_X px BX AX) free) (hS : va_S A0 H0 H locs) (hA : ∀ q, q < H.size → A1 q → A0 q) (hf : ∀ q, free q → A0 q) (hAX : ∀ q, q < H.size → AX q → A0 q)
    (kx : ∀ (E : String) (ce : Cell) (q9 : Addr) (u : SX) (t : State) (H1 : Heap) (locs1 : List Loc), t.heap = H1 → s.vm.Alike t.vm → px u → BX E u t → H.size ≤ H1.size → (∀ q : Nat, q < H.size → ¬ AX q → H1[q]? = H[q]?) → va_S A0 H0 H1 locs1 → H1[q9]? = some ce → ce.vm = .none → s.vm.findClass E = some ce.cls → vx_W p l e R s m args below meth c H1 locs1 (cells + mc) (slots + ms) Q (F0 m pc ls rest) q9)
    (kk : ∀ (r : UInt32) (u : S) (t : State) (H1 : Heap) (locs1 : List Loc), t.heap = H1 → s.vm.Alike t.vm → post r u → B u t → H.size ≤ H1.size → (∀ q : Nat, q < H.size → ¬ A1 q → H1[q]? = H[q]?) → va_S A0 H0 H1 locs1 → W p l e R s m args below meth c H1 locs1 (cells + mc) (slots + ms) Q (F0 m (pc + 5) ls (.float r :: rest))) : W p l e R s m args below meth c H locs cells slots Q (F0 m pc ls st0) := by
  intro T hT X
  rcases hr T hT X with ⟨v, st₀, t, T', L, h0, X', hL, e1, e2, ⟨⟨r, u, hv, hp, hb⟩, hF⟩, st⟩ | ⟨q, st₀, t, T', L, E, ce, h0, X', hL, e1, e2, ⟨u, hp, hb, hF⟩, hce, hcv, hcl, st⟩
  · cases hv
    obtain ⟨k1, k2, k3⟩ := vx_keep h0 e1 hS hA hf hL hF
    obtain ⟨t2, a1, b1⟩ := kk r u t T'.heap (locs ++ L) e1.symm (by rw [← e2]; exact X'.warmed.alike) hp hb k1 k2 k3 T' rfl X'
    exact ⟨t2, st t2 a1, b1⟩
  · obtain ⟨k1, k2, k3⟩ := vx_keep h0 e1 hS hAX hf hL hF
    obtain ⟨t2, a1, b1⟩ := kx E ce q u t T'.heap (locs ++ L) e1.symm (by rw [← e2]; exact X'.warmed.alike) hp hb k1 k2 k3 (by rw [e1]; exact hce) hcv hcl T' rfl X'
    exact ⟨t2, st.trans a1, b1⟩
theorem vx_callFd {S SX : Type} {post : UInt64 → S → Prop} {px : SX → Prop} {B : S → State → Prop} {BX : String → SX → State → Prop} {AX : Nat → Prop} (hr : vx_Run5 p l e R s m args below meth c H locs cells slots mc ms (F0 m pc ls st0) rest (va_Qd post B A1 a) (vx_X px BX AX) free) (hS : va_S A0 H0 H locs) (hA : ∀ q, q < H.size → A1 q → A0 q) (hf : ∀ q, free q → A0 q) (hAX : ∀ q, q < H.size → AX q → A0 q)
    (kx : ∀ (E : String) (ce : Cell) (q9 : Addr) (u : SX) (t : State) (H1 : Heap) (locs1 : List Loc), t.heap = H1 → s.vm.Alike t.vm → px u → BX E u t → H.size ≤ H1.size → (∀ q : Nat, q < H.size → ¬ AX q → H1[q]? = H[q]?) → va_S A0 H0 H1 locs1 → H1[q9]? = some ce → ce.vm = .none → s.vm.findClass E = some ce.cls → vx_W p l e R s m args below meth c H1 locs1 (cells + mc) (slots + ms) Q (F0 m pc ls rest) q9)
    (kk : ∀ (r : UInt64) (u : S) (t : State) (H1 : Heap) (locs1 : List Loc), t.heap = H1 → s.vm.Alike t.vm → post r u → B u t → H.size ≤ H1.size → (∀ q : Nat, q < H.size → ¬ A1 q → H1[q]? = H[q]?) → va_S A0 H0 H1 locs1 → W p l e R s m args below meth c H1 locs1 (cells + mc) (slots + ms) Q (F0 m (pc + 5) ls (.double r :: rest))) : W p l e R s m args below meth c H locs cells slots Q (F0 m pc ls st0) := by
  intro T hT X
  rcases hr T hT X with ⟨v, st₀, t, T', L, h0, X', hL, e1, e2, ⟨⟨r, u, hv, hp, hb⟩, hF⟩, st⟩ | ⟨q, st₀, t, T', L, E, ce, h0, X', hL, e1, e2, ⟨u, hp, hb, hF⟩, hce, hcv, hcl, st⟩
  · cases hv
    obtain ⟨k1, k2, k3⟩ := vx_keep h0 e1 hS hA hf hL hF
    obtain ⟨t2, a1, b1⟩ := kk r u t T'.heap (locs ++ L) e1.symm (by rw [← e2]; exact X'.warmed.alike) hp hb k1 k2 k3 T' rfl X'
    exact ⟨t2, st t2 a1, b1⟩
  · obtain ⟨k1, k2, k3⟩ := vx_keep h0 e1 hS hAX hf hL hF
    obtain ⟨t2, a1, b1⟩ := kx E ce q u t T'.heap (locs ++ L) e1.symm (by rw [← e2]; exact X'.warmed.alike) hp hb k1 k2 k3 (by rw [e1]; exact hce) hcv hcl T' rfl X'
    exact ⟨t2, st.trans a1, b1⟩
end
/-! ===== END ===== -/
/-! ===== BEGIN by an interface, a method with a table of its own that may throw (follows va_callIFW, va_runFW) ===== -/
section
variable {p : Program} {l : Launch} {e : Env} {R : Room} {s : State} {m : MethodId} {args : Array Value} {below : List Frame} {meth : Method} {c : Code} {H : Heap} {locs : List Loc} {cells slots : Nat}
theorem vx_callIFW {T : State} (X : Stand p l e R s m args below meth c T locs cells slots) (hexec : p.tables.exec = Jvm.exec) {own C : String} {index count : Nat} {x y : MethodName} {bytes : ByteArray} {maxL : Nat} {ret : Option FieldType} {hh : List (Nat × Nat × Nat × Nat)}
    (hown : s.vm.findClass own = some m.cls) (hlink : (Cond.methodLink own index x).before args s = true) (hdecl : (Cond.declares x).before args s = true) (hface : (Cond.interfaceMethod x.cls x.cls x.name x.desc).before args s = true)
    (hsel : (Cond.selects C x y).before args s = true) (hinst : (Cond.instanceMethod y).before args s = true) (hpub : (Cond.publicMethod y).before args s = true) (hunh : (Cond.unhidden C x.name x.desc).before args s = true)
    (hcast : (Cond.castable C x.cls).before args s = true) (hcode : (Cond.codeWith y bytes maxL ret hh).before args s = true) (hx : x.cls ≠ "java/lang/invoke/MethodHandle" ∧ x.cls ≠ "java/lang/invoke/VarHandle")
    {W : Nat} {Pre : Pt → Array Value → Prop} {Post : Pt → Array Value → Option Value → Pt → Prop} {PostX : Pt → Array Value → Addr → Pt → Prop} (hK : vx_Back l R p e below s args y 5 W Pre Post PostX)
    {b : Addr} {cellB : Cell} {kB : Class} (hcell : T.heap[b]? = some cellB) (hobj : cellB.vm.isStatics = false) (hcls : s.vm.findClass C = some cellB.cls) (hkB : s.vm.classes[cellB.cls]? = some kB)
    {g : JFrame} (hg : g.method = m) (hsize : g.locals.size = c.maxLocals) {argsL rest : List Value} (hlen : ∀ sig, parseMethodDescriptor x.desc = some sig → argsL.length = sig.parameters.length)
    (hstack : g.stack = argsL.reverse ++ .ref b :: rest) (hW : 2 * g.monitorRoom + (rest.map fun v => v.category).sum ≤ W) (hdg : decode c.code g.pc = .ok (.invokeinterface index count, 5))
    (hpre : ∀ vm₁, s.WarmedH vm₁ → Pre ⟨T.setVm vm₁, locs, cells, slots⟩ (Value.ref b :: argsL).toArray) :
    (∃ (v : Option Value) (vm₁ : Vm) (B : Pt), s.WarmedH vm₁ ∧ Stand p l e R s m args below meth c B.U B.locs B.cells B.slots ∧ Post ⟨T.setVm vm₁, locs, cells, slots⟩ (Value.ref b :: argsL).toArray v B ∧
      ∀ target, Steps p.tables e below (B.U.setTop { g with pc := g.pc + 5, stack := v.toList ++ rest }) target → Steps p.tables e below (T.setTop g) target) ∨
    (∃ (q : Addr) (vm₁ : Vm) (B : Pt), s.WarmedH vm₁ ∧ Stand p l e R s m args below meth c B.U B.locs B.cells B.slots ∧ PostX ⟨T.setVm vm₁, locs, cells, slots⟩ (Value.ref b :: argsL).toArray q B ∧
      Steps p.tables e below (T.setTop g) ((B.U.setTop { g with stack := rest }).pushFrame (.throwing q))) := by
  obtain ⟨r0, r, hn, hrm, hstR, hsigR⟩ := Cond.declares_spec hdecl
  obtain ⟨cL, kL, r1, hcL, hkL, hiL, hfoundL, hn1⟩ := Cond.interfaceMethod_spec hface
  cases hn.symm.trans hn1
  have hr0cls : r0.cls = cL := Option.some.inj ((findClass_of_methodNamed hn).symm.trans hcL)
  obtain ⟨hnameR, hdescR⟩ := name_of_methodNamed hn hrm
  obtain ⟨mk, methM, hnamed, hmethM, -, habM⟩ := Cond.instanceMethod_spec hinst
  obtain ⟨c2, r2, m2, q1, q2, q3, q4, -⟩ := Cond.selects_spec hsel
  cases hcls.symm.trans q1
  cases hfoundL.symm.trans q2
  cases hnamed.symm.trans q3
  have hselP : selectMethod e.platform s.vm cellB.cls r0 = .method mk := by rw [Launch.admits_selectMethod X.admits]; exact q4
  have hpubM : hasFlag methM.accessFlags Acc.public_ = true := Cond.publicMethod_spec hnamed hmethM hpub
  have hway : ((cellB.cls :: s.vm.superclasses cellB.cls).any fun k => (declaredIn s.vm r.name r.desc k).any fun (_, z) => z.isPrivate || z.isStatic) = false := by
    rw [hnameR, hdescR]; exact Cond.unhidden_spec hcls hunh
  obtain ⟨c3, t3, w1, w2, w3⟩ := Cond.castable_spec hcast
  cases hcls.symm.trans w1
  cases hcL.symm.trans w2
  obtain ⟨vm₁, X₁, hstep₁⟩ := X.invokeinterface hexec hown hlink hn hrm hstR (by rw [hr0cls]; exact hkL) hiL hx (a := b) (cell := cellB) (kcell := kB) hcell
    (fun z h => by rw [h] at hobj; cases hobj) hkB (by rw [hr0cls]; exact w3) hselP hmethM hway hpubM habM (g := g) hg (argsL := argsL) (rest := rest) (hlen _ hsigR) hstack hdg
  rcases hK m meth c ⟨T.setVm vm₁, locs, cells, slots⟩ { g with stack := rest } (.invokeinterface index count) mk (Value.ref b :: argsL).toArray X₁ hg hsize hdg hW (X₁.named hnamed) (hpre vm₁ X₁.warmed) with ⟨v, B, X', hpost, hsteps⟩ | ⟨q, B, X', hpost, hsteps⟩
  · exact Or.inl ⟨v, vm₁, B, X₁.warmed, X', hpost, fun target h => hstep₁ _ fun acts => by rw [doInvoke_state]; exact hsteps.trans h⟩
  · exact Or.inr ⟨q, vm₁, B, X₁.warmed, X', hpost, hstep₁ _ fun acts => by rw [doInvoke_state]; exact hsteps⟩
theorem vx_runFW {x y : MethodName} {bytes cc : ByteArray} {maxL nL mc ms n index count : Nat} {ret : Option FieldType} {hh : List (Nat × Nat × Nat × Nat)} {ws : List Cond} {rm : Room} {Pc : Array Value → State → Prop} {Qc : Array Value → State → Outcome → State → Prop} {XC : String → State → State → Prop} {free : Addr → Prop} {Ts : List Cond} {own C : String} {cC : ClassId} {b : Addr} {As rest : List Value} {g : JFrame}
    (hat : ClassAt s C cC) (S : CallFix p m c cc nL s args Ts own) (hM : vx_Met l y ws rm Pc Qc XC mc ms free) (cw : va_CIW R s args own C index x y bytes maxL ret hh ws rm mc ms n) (hp : PreV s H C b Pc As)
    (hg : g.method = m) (hn : As.length = n) (hsize : g.locals.size = nL) (hstack : g.stack = As.reverse ++ .ref b :: rest) (hW : 2 * g.monitorRoom + (rest.map fun v => v.category).sum ≤ 8) (hdg : decode cc g.pc = .ok (.invokeinterface index count, 5)) (hf : cells + mc ≤ R.cells ∧ slots + ms ≤ R.slots) :
    vx_Run5 p l e R s m args below meth c H locs cells slots mc ms g rest (Qc (Value.ref b :: As).toArray) XC free := by
  obtain ⟨hrc, hrs, hfr, hlo, hws, hcw⟩ := cw.back
  have hini := cw.init
  have hK : vx_Back l R p e below s args y 5 8 (PreOf R mc ms Pc) (PostOf Qc mc ms free) (vx_Post XC mc ms free) := vx_backW (hh := hh) (bytes := bytes) (maxL := maxL) (ret := ret) hM hp.1 hrc hrs hfr hlo hws hcw (fun a' U hW => word_at hW (Or.inl (by first | rfl | simp [Cond.onTables, Cond.keeps, Cond.steady])) hini)
  obtain ⟨hx, hb, hml, ho, -⟩ := S
  obtain ⟨-, ⟨cellB, hcB, hoB, hclB⟩, hPc⟩ := hp
  obtain ⟨hfc, kB, hkB, -⟩ := hat
  cases hfc.symm.trans hclB
  intro T hT X
  rcases vx_callIFW X hx (C := C) (hh := hh) (bytes := bytes) (maxL := maxL) (ret := ret) ho cw.link cw.decl cw.face cw.sel cw.inst cw.pub cw.unh cw.cast cw.code cw.notMH hK (by rw [hT]; exact hcB) hoB hclB hkB hg (hsize.trans hml.symm) (argsL := As) (rest := rest) (fun sig h => hn.trans (cw.len sig h)) hstack hW (by rw [hb]; exact hdg)
    (fun vm₁ hW₁ => ⟨hf.1, hf.2, hPc (T.setVm vm₁) hT hW₁⟩) with ⟨v, vm₁, ⟨U', l2, c2, s2⟩, hW₁, X', ⟨g', mk, t, L, e1, e2, hq, h1, hL, h2, h3⟩, st⟩ | ⟨q, vm₁, ⟨U', l2, c2, s2⟩, hW₁, X', ⟨g', mk, t, L, E, ce, e1, e2, hq, hce, hcv, hcl, h1, hL, h2, h3⟩, st⟩
  · dsimp only [Pt.U, Pt.locs, Pt.cells, Pt.slots] at X' e1 e2 h1 h2 h3 st
    subst h1; subst h2; subst h3
    exact Or.inl ⟨v, (T.setVm vm₁).calling g' mk (Value.ref b :: As).toArray, t, U', L, hT, X', hL, e1, e2, hq, st⟩
  · dsimp only [Pt.U, Pt.locs, Pt.cells, Pt.slots] at X' e1 e2 h1 h2 h3 st hcl
    subst h1; subst h2; subst h3
    exact Or.inr ⟨q, (T.setVm vm₁).calling g' mk (Value.ref b :: As).toArray, t, U', L, E, ce, hT, X', hL, e1, e2, hq, hce, hcv, vx_cls hW₁ hcl, st⟩
end
/-! ===== END ===== -/
/-! ===== BEGIN .. of methods that hand back an object of the pool ===== -/
section
variable {p : Program} {l : Launch} {e : Env} {R : Room} {s : State} {m : MethodId} {args : Array Value} {below : List Frame} {meth : Method} {c : Code} {H : Heap} {locs : List Loc} {cells slots : Nat} {Q : State → Prop}
variable {mc ms : Nat} {free : Addr → Prop} {A0 A1 : Nat → Prop} {H0 : Heap} {a : Array Value} {pc : Nat} {ls : Array Slot} {st0 rest : List Value}
theorem vx_callq {S SX : Type} {post : Option Nat → S → Prop} {px : SX → Prop} {B : S → State → Prop} {BX : String → SX → State → Prop} {AX : Nat → Prop} (hr : vx_Run p l e R s m args below meth c H locs cells slots mc ms (F0 m pc ls st0) rest (va_Qq post B A1 a) (vx_X px BX AX) free) (hS : va_S A0 H0 H locs) (hA : ∀ q, q < H.size → A1 q → A0 q) (hf : ∀ q, free q → A0 q) (hAX : ∀ q, q < H.size → AX q → A0 q)
    (kx : ∀ (E : String) (ce : Cell) (q9 : Addr) (u : SX) (t : State) (H1 : Heap) (locs1 : List Loc), t.heap = H1 → s.vm.Alike t.vm → px u → BX E u t → H.size ≤ H1.size → (∀ q : Nat, q < H.size → ¬ AX q → H1[q]? = H[q]?) → va_S A0 H0 H1 locs1 → H1[q9]? = some ce → ce.vm = .none → s.vm.findClass E = some ce.cls → vx_W p l e R s m args below meth c H1 locs1 (cells + mc) (slots + ms) Q (F0 m pc ls rest) q9)
    (kk : ∀ (r : Option Nat) (u : S) (t : State) (H1 : Heap) (locs1 : List Loc), t.heap = H1 → s.vm.Alike t.vm → post r u → B u t → H.size ≤ H1.size → (∀ q : Nat, q < H.size → ¬ A1 q → H1[q]? = H[q]?) → va_S A0 H0 H1 locs1 → W p l e R s m args below meth c H1 locs1 (cells + mc) (slots + ms) Q (F0 m (pc + 3) ls (va_rf r :: rest))) : W p l e R s m args below meth c H locs cells slots Q (F0 m pc ls st0) := by
  intro T hT X
  rcases hr T hT X with ⟨v, st₀, t, T', L, h0, X', hL, e1, e2, ⟨⟨r, u, hv, hp, hb⟩, hF⟩, st⟩ | ⟨q, st₀, t, T', L, E, ce, h0, X', hL, e1, e2, ⟨u, hp, hb, hF⟩, hce, hcv, hcl, st⟩
  · cases hv
    obtain ⟨k1, k2, k3⟩ := vx_keep h0 e1 hS hA hf hL hF
    obtain ⟨t2, a1, b1⟩ := kk r u t T'.heap (locs ++ L) e1.symm (by rw [← e2]; exact X'.warmed.alike) hp hb k1 k2 k3 T' rfl X'
    exact ⟨t2, st t2 a1, b1⟩
  · obtain ⟨k1, k2, k3⟩ := vx_keep h0 e1 hS hAX hf hL hF
    obtain ⟨t2, a1, b1⟩ := kx E ce q u t T'.heap (locs ++ L) e1.symm (by rw [← e2]; exact X'.warmed.alike) hp hb k1 k2 k3 (by rw [e1]; exact hce) hcv hcl T' rfl X'
    exact ⟨t2, st.trans a1, b1⟩
end
/-! ===== END ===== -/
/-! ===== BEGIN .. a constant ===== -/
section
variable {p : Program} {l : Launch} {e : Env} {R : Room} {s : State} {m : MethodId} {args : Array Value} {below : List Frame} {meth : Method} {c : Code} {H : Heap} {locs : List Loc} {cells slots : Nat} {Q : State → Prop}
variable {mc ms : Nat} {free : Addr → Prop} {A0 A1 : Nat → Prop} {H0 : Heap} {a : Array Value} {pc : Nat} {ls : Array Slot} {st0 rest : List Value}
theorem vx_calle {ad : Nat → Nat} {S SX : Type} {post : Option Nat → S → Prop} {px : SX → Prop} {B : S → State → Prop} {BX : String → SX → State → Prop} {AX : Nat → Prop} (hr : vx_Run p l e R s m args below meth c H locs cells slots mc ms (F0 m pc ls st0) rest (va_Qe ad post B A1 a) (vx_X px BX AX) free) (hS : va_S A0 H0 H locs) (hA : ∀ q, q < H.size → A1 q → A0 q) (hf : ∀ q, free q → A0 q) (hAX : ∀ q, q < H.size → AX q → A0 q)
    (kx : ∀ (E : String) (ce : Cell) (q9 : Addr) (u : SX) (t : State) (H1 : Heap) (locs1 : List Loc), t.heap = H1 → s.vm.Alike t.vm → px u → BX E u t → H.size ≤ H1.size → (∀ q : Nat, q < H.size → ¬ AX q → H1[q]? = H[q]?) → va_S A0 H0 H1 locs1 → H1[q9]? = some ce → ce.vm = .none → s.vm.findClass E = some ce.cls → vx_W p l e R s m args below meth c H1 locs1 (cells + mc) (slots + ms) Q (F0 m pc ls rest) q9)
    (kk : ∀ (r : Option Nat) (u : S) (t : State) (H1 : Heap) (locs1 : List Loc), t.heap = H1 → s.vm.Alike t.vm → post r u → B u t → H.size ≤ H1.size → (∀ q : Nat, q < H.size → ¬ A1 q → H1[q]? = H[q]?) → va_S A0 H0 H1 locs1 → W p l e R s m args below meth c H1 locs1 (cells + mc) (slots + ms) Q (F0 m (pc + 3) ls (va_re ad r :: rest))) : W p l e R s m args below meth c H locs cells slots Q (F0 m pc ls st0) := by
  intro T hT X
  rcases hr T hT X with ⟨v, st₀, t, T', L, h0, X', hL, e1, e2, ⟨⟨r, u, hv, hp, hb⟩, hF⟩, st⟩ | ⟨q, st₀, t, T', L, E, ce, h0, X', hL, e1, e2, ⟨u, hp, hb, hF⟩, hce, hcv, hcl, st⟩
  · cases hv
    obtain ⟨k1, k2, k3⟩ := vx_keep h0 e1 hS hA hf hL hF
    obtain ⟨t2, a1, b1⟩ := kk r u t T'.heap (locs ++ L) e1.symm (by rw [← e2]; exact X'.warmed.alike) hp hb k1 k2 k3 T' rfl X'
    exact ⟨t2, st t2 a1, b1⟩
  · obtain ⟨k1, k2, k3⟩ := vx_keep h0 e1 hS hAX hf hL hF
    obtain ⟨t2, a1, b1⟩ := kx E ce q u t T'.heap (locs ++ L) e1.symm (by rw [← e2]; exact X'.warmed.alike) hp hb k1 k2 k3 (by rw [e1]; exact hce) hcv hcl T' rfl X'
    exact ⟨t2, st.trans a1, b1⟩
end
/-! ===== END ===== -/
/-! ===== BEGIN .. by an interface, an object ===== -/
section
variable {p : Program} {l : Launch} {e : Env} {R : Room} {s : State} {m : MethodId} {args : Array Value} {below : List Frame} {meth : Method} {c : Code} {H : Heap} {locs : List Loc} {cells slots : Nat} {Q : State → Prop}
variable {mc ms : Nat} {free : Addr → Prop} {A0 A1 : Nat → Prop} {H0 : Heap} {a : Array Value} {pc : Nat} {ls : Array Slot} {st0 rest : List Value}
theorem vx_callFq {S SX : Type} {post : Option Nat → S → Prop} {px : SX → Prop} {B : S → State → Prop} {BX : String → SX → State → Prop} {AX : Nat → Prop} (hr : vx_Run5 p l e R s m args below meth c H locs cells slots mc ms (F0 m pc ls st0) rest (va_Qq post B A1 a) (vx_X px BX AX) free) (hS : va_S A0 H0 H locs) (hA : ∀ q, q < H.size → A1 q → A0 q) (hf : ∀ q, free q → A0 q) (hAX : ∀ q, q < H.size → AX q → A0 q)
    (kx : ∀ (E : String) (ce : Cell) (q9 : Addr) (u : SX) (t : State) (H1 : Heap) (locs1 : List Loc), t.heap = H1 → s.vm.Alike t.vm → px u → BX E u t → H.size ≤ H1.size → (∀ q : Nat, q < H.size → ¬ AX q → H1[q]? = H[q]?) → va_S A0 H0 H1 locs1 → H1[q9]? = some ce → ce.vm = .none → s.vm.findClass E = some ce.cls → vx_W p l e R s m args below meth c H1 locs1 (cells + mc) (slots + ms) Q (F0 m pc ls rest) q9)
    (kk : ∀ (r : Option Nat) (u : S) (t : State) (H1 : Heap) (locs1 : List Loc), t.heap = H1 → s.vm.Alike t.vm → post r u → B u t → H.size ≤ H1.size → (∀ q : Nat, q < H.size → ¬ A1 q → H1[q]? = H[q]?) → va_S A0 H0 H1 locs1 → W p l e R s m args below meth c H1 locs1 (cells + mc) (slots + ms) Q (F0 m (pc + 5) ls (va_rf r :: rest))) : W p l e R s m args below meth c H locs cells slots Q (F0 m pc ls st0) := by
  intro T hT X
  rcases hr T hT X with ⟨v, st₀, t, T', L, h0, X', hL, e1, e2, ⟨⟨r, u, hv, hp, hb⟩, hF⟩, st⟩ | ⟨q, st₀, t, T', L, E, ce, h0, X', hL, e1, e2, ⟨u, hp, hb, hF⟩, hce, hcv, hcl, st⟩
  · cases hv
    obtain ⟨k1, k2, k3⟩ := vx_keep h0 e1 hS hA hf hL hF
    obtain ⟨t2, a1, b1⟩ := kk r u t T'.heap (locs ++ L) e1.symm (by rw [← e2]; exact X'.warmed.alike) hp hb k1 k2 k3 T' rfl X'
    exact ⟨t2, st t2 a1, b1⟩
  · obtain ⟨k1, k2, k3⟩ := vx_keep h0 e1 hS hAX hf hL hF
    obtain ⟨t2, a1, b1⟩ := kx E ce q u t T'.heap (locs ++ L) e1.symm (by rw [← e2]; exact X'.warmed.alike) hp hb k1 k2 k3 (by rw [e1]; exact hce) hcv hcl T' rfl X'
    exact ⟨t2, st.trans a1, b1⟩
end
/-! ===== END ===== -/
/-! ===== BEGIN .. by an interface, a constant ===== -/
section
variable {p : Program} {l : Launch} {e : Env} {R : Room} {s : State} {m : MethodId} {args : Array Value} {below : List Frame} {meth : Method} {c : Code} {H : Heap} {locs : List Loc} {cells slots : Nat} {Q : State → Prop}
variable {mc ms : Nat} {free : Addr → Prop} {A0 A1 : Nat → Prop} {H0 : Heap} {a : Array Value} {pc : Nat} {ls : Array Slot} {st0 rest : List Value}
theorem vx_callFe {ad : Nat → Nat} {S SX : Type} {post : Option Nat → S → Prop} {px : SX → Prop} {B : S → State → Prop} {BX : String → SX → State → Prop} {AX : Nat → Prop} (hr : vx_Run5 p l e R s m args below meth c H locs cells slots mc ms (F0 m pc ls st0) rest (va_Qe ad post B A1 a) (vx_X px BX AX) free) (hS : va_S A0 H0 H locs) (hA : ∀ q, q < H.size → A1 q → A0 q) (hf : ∀ q, free q → A0 q) (hAX : ∀ q, q < H.size → AX q → A0 q)
    (kx : ∀ (E : String) (ce : Cell) (q9 : Addr) (u : SX) (t : State) (H1 : Heap) (locs1 : List Loc), t.heap = H1 → s.vm.Alike t.vm → px u → BX E u t → H.size ≤ H1.size → (∀ q : Nat, q < H.size → ¬ AX q → H1[q]? = H[q]?) → va_S A0 H0 H1 locs1 → H1[q9]? = some ce → ce.vm = .none → s.vm.findClass E = some ce.cls → vx_W p l e R s m args below meth c H1 locs1 (cells + mc) (slots + ms) Q (F0 m pc ls rest) q9)
    (kk : ∀ (r : Option Nat) (u : S) (t : State) (H1 : Heap) (locs1 : List Loc), t.heap = H1 → s.vm.Alike t.vm → post r u → B u t → H.size ≤ H1.size → (∀ q : Nat, q < H.size → ¬ A1 q → H1[q]? = H[q]?) → va_S A0 H0 H1 locs1 → W p l e R s m args below meth c H1 locs1 (cells + mc) (slots + ms) Q (F0 m (pc + 5) ls (va_re ad r :: rest))) : W p l e R s m args below meth c H locs cells slots Q (F0 m pc ls st0) := by
  intro T hT X
  rcases hr T hT X with ⟨v, st₀, t, T', L, h0, X', hL, e1, e2, ⟨⟨r, u, hv, hp, hb⟩, hF⟩, st⟩ | ⟨q, st₀, t, T', L, E, ce, h0, X', hL, e1, e2, ⟨u, hp, hb, hF⟩, hce, hcv, hcl, st⟩
  · cases hv
    obtain ⟨k1, k2, k3⟩ := vx_keep h0 e1 hS hA hf hL hF
    obtain ⟨t2, a1, b1⟩ := kk r u t T'.heap (locs ++ L) e1.symm (by rw [← e2]; exact X'.warmed.alike) hp hb k1 k2 k3 T' rfl X'
    exact ⟨t2, st t2 a1, b1⟩
  · obtain ⟨k1, k2, k3⟩ := vx_keep h0 e1 hS hAX hf hL hF
    obtain ⟨t2, a1, b1⟩ := kx E ce q u t T'.heap (locs ++ L) e1.symm (by rw [← e2]; exact X'.warmed.alike) hp hb k1 k2 k3 (by rw [e1]; exact hce) hcv hcl T' rfl X'
    exact ⟨t2, st.trans a1, b1⟩
end
/-! ===== END ===== -/
/-! ===== BEGIN what the machine throws by itself: null at a field, at athrow ===== -/
section VXM2
variable {p : Program} {l : Launch} {e : Env} {R : Room} {s : State} {m : MethodId} {args : Array Value} {below : List Frame} {meth : Method} {c : Code} {H : Heap} {locs : List Loc} {cells slots : Nat}
variable {Q : State → Prop} {cc : ByteArray} {pc : Nat} {ls : Array Slot} {rest : List Value}
theorem vx_getfN {D cl tys} {own ref C : String} {T : u_T} {N ci index : Nat} {Ts : List Cond} (hexec : p.tables.exec = Jvm.exec) (hb : c.code = cc) (hts : ∀ w ∈ Ts, w.before args s = true) (hin : ∀ w ∈ u_ws C T N, w ∈ Ts) (hown : s.vm.findClass own = some m.cls) (hK : va_K D cl tys s) (hc : cl[ci]? = some (C, T, N)) (k : Nat) (hk : k < N) (hlink : (Cond.fieldLink own index ref (T k).2.1 (T k).2.2.1).before args s = true) (hsame : ∀ x, s.fieldFound? (T k).1 (T k).2.1 (T k).2.2.1 = some x → s.fieldFound? ref (T k).2.1 (T k).2.2.1 = some x) (hdg : decode cc pc = .ok (.getfield index, 3)) (kk : vx_NoteN p l e R s m args below meth c H locs cells slots Q (F0 m pc ls rest)) : W p l e R s m args below meth c H locs cells slots Q (F0 m pc ls (.null :: rest)) := by
  obtain ⟨hS, hfc, kC, hkC, -⟩ := hK.1 ci _ hc
  obtain ⟨cf, kf, fi, f, hi, -⟩ := hS k hk
  intro U hU X
  obtain ⟨vm', X1, st1⟩ := X.getfieldNull hexec hown hlink (hsame _ hi) (u_facts hfc hkC (u_lays hts hin hk) hi).1 (g := F0 m pc ls (.null :: rest)) rfl (rest := rest) rfl (by rw [hb]; exact hdg)
  obtain ⟨t, st, q⟩ := kk (U.setVm vm') hU X1
  exact ⟨t, st1 t st, q⟩
theorem vx_getfNN {D cl tys} {own ref C host : String} {T : u_T} {N ci index : Nat} {Ts : List Cond} (hexec : p.tables.exec = Jvm.exec) (hb : c.code = cc) (hts : ∀ w ∈ Ts, w.before args s = true) (hin : ∀ w ∈ u_ws C T N, w ∈ Ts) (hown : s.vm.findClass own = some m.cls) (hK : va_K D cl tys s) (hc : cl[ci]? = some (C, T, N)) (k : Nat) (hk : k < N) (hlink : (Cond.fieldLinkNest own index ref (T k).2.1 (T k).2.2.1 host).before args s = true) (hsame : ∀ x, s.fieldFound? (T k).1 (T k).2.1 (T k).2.2.1 = some x → s.fieldFound? ref (T k).2.1 (T k).2.2.1 = some x) (hdg : decode cc pc = .ok (.getfield index, 3)) (kk : vx_NoteN p l e R s m args below meth c H locs cells slots Q (F0 m pc ls rest)) : W p l e R s m args below meth c H locs cells slots Q (F0 m pc ls (.null :: rest)) := by
  obtain ⟨hS, hfc, kC, hkC, -⟩ := hK.1 ci _ hc
  obtain ⟨cf, kf, fi, f, hi, -⟩ := hS k hk
  intro U hU X
  obtain ⟨vm', X1, st1⟩ := X.getfieldNullNest hexec hown hlink (hsame _ hi) (u_facts hfc hkC (u_lays hts hin hk) hi).1 (g := F0 m pc ls (.null :: rest)) rfl (rest := rest) rfl (by rw [hb]; exact hdg)
  obtain ⟨t, st, q⟩ := kk (U.setVm vm') hU X1
  exact ⟨t, st1 t st, q⟩
theorem vx_putfN {D cl tys} {own ref C : String} {T : u_T} {N ci index : Nat} {Ts : List Cond} (hexec : p.tables.exec = Jvm.exec) (hb : c.code = cc) (hts : ∀ w ∈ Ts, w.before args s = true) (hin : ∀ w ∈ u_ws C T N, w ∈ Ts) (hown : s.vm.findClass own = some m.cls) (hK : va_K D cl tys s) (hc : cl[ci]? = some (C, T, N)) (k : Nat) (hk : k < N) (hlink : (Cond.fieldLink own index ref (T k).2.1 (T k).2.2.1).before args s = true) (hsame : ∀ x, s.fieldFound? (T k).1 (T k).2.1 (T k).2.2.1 = some x → s.fieldFound? ref (T k).2.1 (T k).2.2.1 = some x) (hfin : (T k).2.2.2 = false) {v : Value} (hdg : decode cc pc = .ok (.putfield index, 3)) (kk : vx_NoteN p l e R s m args below meth c H locs cells slots Q (F0 m pc ls rest)) : W p l e R s m args below meth c H locs cells slots Q (F0 m pc ls (v :: .null :: rest)) := by
  obtain ⟨hS, hfc, kC, hkC, -⟩ := hK.1 ci _ hc
  obtain ⟨cf, kf, fi, f, hi, -⟩ := hS k hk
  have hlay := hts _ (hin _ (u_in_lay hk))
  unfold u_lay at hlay
  rw [if_neg (by rw [hfin]; decide)] at hlay
  obtain ⟨c9, k9, cf9, kf9, fi9, f9, -, -, hi9, hst9, hnf9, -⟩ := Cond.lays_spec hlay
  cases hi.symm.trans hi9
  intro U hU X
  obtain ⟨vm', X1, st1⟩ := X.putfieldNull hexec hown hlink (hsame _ hi) hst9 hnf9 (g := F0 m pc ls (v :: .null :: rest)) rfl (v := v) (rest := rest) rfl (by rw [hb]; exact hdg)
  obtain ⟨t, st, q⟩ := kk (U.setVm vm') hU X1
  exact ⟨t, st1 t st, q⟩
theorem vx_putfNN {D cl tys} {own ref C host : String} {T : u_T} {N ci index : Nat} {Ts : List Cond} (hexec : p.tables.exec = Jvm.exec) (hb : c.code = cc) (hts : ∀ w ∈ Ts, w.before args s = true) (hin : ∀ w ∈ u_ws C T N, w ∈ Ts) (hown : s.vm.findClass own = some m.cls) (hK : va_K D cl tys s) (hc : cl[ci]? = some (C, T, N)) (k : Nat) (hk : k < N) (hlink : (Cond.fieldLinkNest own index ref (T k).2.1 (T k).2.2.1 host).before args s = true) (hsame : ∀ x, s.fieldFound? (T k).1 (T k).2.1 (T k).2.2.1 = some x → s.fieldFound? ref (T k).2.1 (T k).2.2.1 = some x) (hfin : (T k).2.2.2 = false) {v : Value} (hdg : decode cc pc = .ok (.putfield index, 3)) (kk : vx_NoteN p l e R s m args below meth c H locs cells slots Q (F0 m pc ls rest)) : W p l e R s m args below meth c H locs cells slots Q (F0 m pc ls (v :: .null :: rest)) := by
  obtain ⟨hS, hfc, kC, hkC, -⟩ := hK.1 ci _ hc
  obtain ⟨cf, kf, fi, f, hi, -⟩ := hS k hk
  have hlay := hts _ (hin _ (u_in_lay hk))
  unfold u_lay at hlay
  rw [if_neg (by rw [hfin]; decide)] at hlay
  obtain ⟨c9, k9, cf9, kf9, fi9, f9, -, -, hi9, hst9, hnf9, -⟩ := Cond.lays_spec hlay
  cases hi.symm.trans hi9
  intro U hU X
  obtain ⟨vm', X1, st1⟩ := X.putfieldNullNest hexec hown hlink (hsame _ hi) hst9 hnf9 (g := F0 m pc ls (v :: .null :: rest)) rfl (v := v) (rest := rest) rfl (by rw [hb]; exact hdg)
  obtain ⟨t, st, q⟩ := kk (U.setVm vm') hU X1
  exact ⟨t, st1 t st, q⟩
theorem vx_athrowN (hexec : p.tables.exec = Jvm.exec) (hb : c.code = cc) (hdg : decode cc pc = .ok (.athrow, 1)) (k : vx_NoteN p l e R s m args below meth c H locs cells slots Q (F0 m pc ls rest)) : W p l e R s m args below meth c H locs cells slots Q (F0 m pc ls (.null :: rest)) := by
  intro T hT X
  obtain ⟨t, st, q⟩ := k T hT X
  exact ⟨t, X.athrowNull hexec (g := F0 m pc ls (.null :: rest)) rfl (rest := rest) rfl (by rw [hb]; exact hdg) t st, q⟩
end VXM2
/-! ===== END ===== -/
end
section
def RX0 : String := "TermReckoner$Awards"
def TX0 : u_T := fun k => match k with
  | 0 => ("TermReckoner$Awards", "left", "[I", true)
  | 1 => ("TermReckoner$Awards", "concerned", "[I", true)
  | 2 => ("TermReckoner$Awards", "recallNumber", "[I", true)
  | _ => ("TermReckoner$Awards", "count", "I", false)
def tyX0 : Nat → FieldType := fun k => match k with
  | 0 => .array .int
  | 1 => .array .int
  | 2 => .array .int
  | _ => .int
abbrev wsX00 : List Cond := u_ws RX0 TX0 4
theorem nmX0 : ∀ a, a < 4 → ∀ b, b < 4 → a ≠ b → (TX0 a).2.1 ≠ (TX0 b).2.1 := by decide +kernel
theorem tyX0_ok : ∀ k, k < 4 → parseFieldDescriptor (TX0 k).2.2.1 = some (tyX0 k) := by decide +kernel
abbrev cX0_init : ByteArray := prog_2_method_1_code
def yX0_init : MethodName := ⟨RX0, "<init>", "()V"⟩
abbrev cX0_add : ByteArray := prog_2_method_2_code
def yX0_add : MethodName := ⟨RX0, "add", "(III)I"⟩
abbrev cX0_daysForChain : ByteArray := prog_2_method_3_code
def yX0_daysForChain : MethodName := ⟨RX0, "daysForChain", "(I)I"⟩
abbrev cX0_daysForRecall : ByteArray := prog_2_method_4_code
def yX0_daysForRecall : MethodName := ⟨RX0, "daysForRecall", "(I)I"⟩
def RX1 : String := "TermReckoner$Dates"
def TX1 : u_T := fun k => match k with
  | _ => ("", "", "", false)
def tyX1 : Nat → FieldType := fun k => match k with
  | _ => .int
abbrev wsX10 : List Cond := u_ws RX1 TX1 0
theorem nmX1 : ∀ a, a < 0 → ∀ b, b < 0 → a ≠ b → (TX1 a).2.1 ≠ (TX1 b).2.1 := by decide +kernel
theorem tyX1_ok : ∀ k, k < 0 → parseFieldDescriptor (TX1 k).2.2.1 = some (tyX1 k) := by decide +kernel
abbrev cX1_exists : ByteArray := prog_3_method_2_code
def yX1_exists : MethodName := ⟨RX1, "exists", "(III)Z"⟩
abbrev cX1_daysIn : ByteArray := prog_3_method_3_code
def yX1_daysIn : MethodName := ⟨RX1, "daysIn", "(II)I"⟩
abbrev cX1_numberOf : ByteArray := prog_3_method_4_code
def yX1_numberOf : MethodName := ⟨RX1, "numberOf", "(III)I"⟩
abbrev cX1_yearStart : ByteArray := prog_3_method_5_code
def yX1_yearStart : MethodName := ⟨RX1, "yearStart", "(I)I"⟩
abbrev cX1_numberByAdding : ByteArray := prog_3_method_6_code
def yX1_numberByAdding : MethodName := ⟨RX1, "numberByAdding", "(III)I"⟩
abbrev cX1_daysBefore : ByteArray := prog_3_method_7_code
def yX1_daysBefore : MethodName := ⟨RX1, "daysBefore", "(II)I"⟩
abbrev cX1_yearAt : ByteArray := prog_3_method_8_code
def yX1_yearAt : MethodName := ⟨RX1, "yearAt", "(I)I"⟩
abbrev cX1_monthAt : ByteArray := prog_3_method_9_code
def yX1_monthAt : MethodName := ⟨RX1, "monthAt", "(I)I"⟩
abbrev cX1_dayInMonthAt : ByteArray := prog_3_method_10_code
def yX1_dayInMonthAt : MethodName := ⟨RX1, "dayInMonthAt", "(I)I"⟩
abbrev cX1_later : ByteArray := prog_3_method_11_code
def yX1_later : MethodName := ⟨RX1, "later", "(II)I"⟩
def RX2 : String := "TermReckoner$DaySet"
def TX2 : u_T := fun k => match k with
  | _ => ("TermReckoner$DaySet", "words", "[J", true)
def tyX2 : Nat → FieldType := fun k => match k with
  | _ => .array .long
abbrev wsX20 : List Cond := u_ws RX2 TX2 1
theorem nmX2 : ∀ a, a < 1 → ∀ b, b < 1 → a ≠ b → (TX2 a).2.1 ≠ (TX2 b).2.1 := by decide +kernel
theorem tyX2_ok : ∀ k, k < 1 → parseFieldDescriptor (TX2 k).2.2.1 = some (tyX2 k) := by decide +kernel
abbrev cX2_init : ByteArray := prog_4_method_1_code
def yX2_init : MethodName := ⟨RX2, "<init>", "()V"⟩
abbrev cX2_clear : ByteArray := prog_4_method_2_code
def yX2_clear : MethodName := ⟨RX2, "clear", "()V"⟩
abbrev cX2_has : ByteArray := prog_4_method_3_code
def yX2_has : MethodName := ⟨RX2, "has", "(I)Z"⟩
abbrev cX2_mark : ByteArray := prog_4_method_4_code
def yX2_mark : MethodName := ⟨RX2, "mark", "(II)V"⟩
abbrev cX2_sizeWithin : ByteArray := prog_4_method_5_code
def yX2_sizeWithin : MethodName := ⟨RX2, "sizeWithin", "(II)I"⟩
abbrev cX2_sizeWithout : ByteArray := prog_4_method_6_code
def yX2_sizeWithout : MethodName := ⟨RX2, "sizeWithout", "(LTermReckoner$DaySet;)I"⟩
abbrev cX2_bitsWithin : ByteArray := prog_4_method_7_code
def yX2_bitsWithin : MethodName := ⟨RX2, "bitsWithin", "(III)J"⟩
def RX3 : String := "TermReckoner$LatestRecall"
def TX3 : u_T := fun k => match k with
  | 0 => ("TermReckoner$LatestRecall", "number", "I", false)
  | 1 => ("TermReckoner$LatestRecall", "madeOn", "I", false)
  | 2 => ("TermReckoner$LatestRecall", "days", "I", false)
  | _ => ("TermReckoner$LatestRecall", "limit", "I", false)
def tyX3 : Nat → FieldType := fun k => match k with
  | 0 => .int
  | 1 => .int
  | 2 => .int
  | _ => .int
abbrev wsX30 : List Cond := u_ws RX3 TX3 4
theorem nmX3 : ∀ a, a < 4 → ∀ b, b < 4 → a ≠ b → (TX3 a).2.1 ≠ (TX3 b).2.1 := by decide +kernel
theorem tyX3_ok : ∀ k, k < 4 → parseFieldDescriptor (TX3 k).2.2.1 = some (tyX3 k) := by decide +kernel
abbrev cX3_init : ByteArray := prog_5_method_1_code
def yX3_init : MethodName := ⟨RX3, "<init>", "()V"⟩
abbrev cX3_replace : ByteArray := prog_5_method_2_code
def yX3_replace : MethodName := ⟨RX3, "replace", "(III)V"⟩
abbrev cX3_lowerLimit : ByteArray := prog_5_method_3_code
def yX3_lowerLimit : MethodName := ⟨RX3, "lowerLimit", "(I)V"⟩
abbrev cX3_endWith : ByteArray := prog_5_method_4_code
def yX3_endWith : MethodName := ⟨RX3, "endWith", "(I)I"⟩
def RX4 : String := "TermReckoner$Remands"
def TX4 : u_T := fun k => match k with
  | 0 => ("TermReckoner$Remands", "owner", "[I", true)
  | 1 => ("TermReckoner$Remands", "firstDay", "[I", true)
  | 2 => ("TermReckoner$Remands", "lastDay", "[I", true)
  | 3 => ("TermReckoner$Remands", "sortedFirst", "[I", true)
  | 4 => ("TermReckoner$Remands", "sortedLast", "[I", true)
  | _ => ("TermReckoner$Remands", "count", "I", false)
def tyX4 : Nat → FieldType := fun k => match k with
  | 0 => .array .int
  | 1 => .array .int
  | 2 => .array .int
  | 3 => .array .int
  | 4 => .array .int
  | _ => .int
abbrev wsX40 : List Cond := u_ws RX4 TX4 6
theorem nmX4 : ∀ a, a < 6 → ∀ b, b < 6 → a ≠ b → (TX4 a).2.1 ≠ (TX4 b).2.1 := by decide +kernel
theorem tyX4_ok : ∀ k, k < 6 → parseFieldDescriptor (TX4 k).2.2.1 = some (tyX4 k) := by decide +kernel
abbrev cX4_init : ByteArray := prog_6_method_1_code
def yX4_init : MethodName := ⟨RX4, "<init>", "()V"⟩
abbrev cX4_add : ByteArray := prog_6_method_2_code
def yX4_add : MethodName := ⟨RX4, "add", "(III)V"⟩
abbrev cX4_belongsTo : ByteArray := prog_6_method_3_code
def yX4_belongsTo : MethodName := ⟨RX4, "belongsTo", "(II)Z"⟩
abbrev cX4_sort : ByteArray := prog_6_method_4_code
def yX4_sort : MethodName := ⟨RX4, "sort", "(I)I"⟩
abbrev cX4_insert : ByteArray := prog_6_method_5_code
def yX4_insert : MethodName := ⟨RX4, "insert", "(III)V"⟩
def RX5 : String := "TermReckoner$Terms"
def TX5 : u_T := fun k => match k with
  | 0 => ("TermReckoner$Terms", "kind", "[I", true)
  | 1 => ("TermReckoner$Terms", "months", "[I", true)
  | 2 => ("TermReckoner$Terms", "days", "[I", true)
  | 3 => ("TermReckoner$Terms", "imposedOn", "[I", true)
  | 4 => ("TermReckoner$Terms", "parent", "[I", true)
  | 5 => ("TermReckoner$Terms", "independentStart", "[I", true)
  | 6 => ("TermReckoner$Terms", "quashed", "[Z", true)
  | 7 => ("TermReckoner$Terms", "count", "I", false)
  | 8 => ("TermReckoner$Terms", "chain", "[I", true)
  | 9 => ("TermReckoner$Terms", "startDay", "[I", true)
  | 10 => ("TermReckoner$Terms", "ownLength", "[I", true)
  | 11 => ("TermReckoner$Terms", "chainStart", "[I", true)
  | 12 => ("TermReckoner$Terms", "chainDays", "[I", true)
  | 13 => ("TermReckoner$Terms", "chainCustody", "[I", true)
  | 14 => ("TermReckoner$Terms", "creditDays", "[I", true)
  | _ => ("TermReckoner$Terms", "parentBefore", "[I", true)
def tyX5 : Nat → FieldType := fun k => match k with
  | 0 => .array .int
  | 1 => .array .int
  | 2 => .array .int
  | 3 => .array .int
  | 4 => .array .int
  | 5 => .array .int
  | 6 => .array .boolean
  | 7 => .int
  | 8 => .array .int
  | 9 => .array .int
  | 10 => .array .int
  | 11 => .array .int
  | 12 => .array .int
  | 13 => .array .int
  | 14 => .array .int
  | _ => .array .int
abbrev wsX50 : List Cond := u_ws RX5 TX5 16
theorem nmX5 : ∀ a, a < 16 → ∀ b, b < 16 → a ≠ b → (TX5 a).2.1 ≠ (TX5 b).2.1 := by decide +kernel
theorem tyX5_ok : ∀ k, k < 16 → parseFieldDescriptor (TX5 k).2.2.1 = some (tyX5 k) := by decide +kernel
abbrev cX5_init : ByteArray := prog_7_method_1_code
def yX5_init : MethodName := ⟨RX5, "<init>", "()V"⟩
abbrev cX5_add : ByteArray := prog_7_method_2_code
def yX5_add : MethodName := ⟨RX5, "add", "(IIIII)I"⟩
abbrev cX5_standing : ByteArray := prog_7_method_3_code
def yX5_standing : MethodName := ⟨RX5, "standing", "()I"⟩
abbrev cX5_remove : ByteArray := prog_7_method_4_code
def yX5_remove : MethodName := ⟨RX5, "remove", "(I)I"⟩
abbrev cX5_remember : ByteArray := prog_7_method_5_code
def yX5_remember : MethodName := ⟨RX5, "remember", "()V"⟩
abbrev cX5_bringBack : ByteArray := prog_7_method_6_code
def yX5_bringBack : MethodName := ⟨RX5, "bringBack", "(I)V"⟩
abbrev cX5_settleChain : ByteArray := prog_7_method_7_code
def yX5_settleChain : MethodName := ⟨RX5, "settleChain", "(I)V"⟩
abbrev cX5_custodyOf : ByteArray := prog_7_method_8_code
def yX5_custodyOf : MethodName := ⟨RX5, "custodyOf", "(II)I"⟩
abbrev cX5_releaseWith : ByteArray := prog_7_method_9_code
def yX5_releaseWith : MethodName := ⟨RX5, "releaseWith", "(II)I"⟩
abbrev cX5_endOf : ByteArray := prog_7_method_10_code
def yX5_endOf : MethodName := ⟨RX5, "endOf", "(I)I"⟩
def RX6 : String := "TermReckoner"
def TX6 : u_T := fun k => match k with
  | 0 => ("TermReckoner", "terms", "LTermReckoner$Terms;", true)
  | 1 => ("TermReckoner", "remands", "LTermReckoner$Remands;", true)
  | 2 => ("TermReckoner", "awards", "LTermReckoner$Awards;", true)
  | 3 => ("TermReckoner", "latestRecall", "LTermReckoner$LatestRecall;", true)
  | 4 => ("TermReckoner", "served", "LTermReckoner$DaySet;", true)
  | 5 => ("TermReckoner", "licensed", "LTermReckoner$DaySet;", true)
  | 6 => ("TermReckoner", "marks", "LTermReckoner$DaySet;", true)
  | 7 => ("TermReckoner", "output", "Ljava/lang/StringBuilder;", true)
  | 8 => ("TermReckoner", "currentDay", "I", false)
  | 9 => ("TermReckoner", "servedCount", "I", false)
  | _ => ("TermReckoner", "licenceCount", "I", false)
def tyX6 : Nat → FieldType := fun k => match k with
  | 0 => .object "TermReckoner$Terms"
  | 1 => .object "TermReckoner$Remands"
  | 2 => .object "TermReckoner$Awards"
  | 3 => .object "TermReckoner$LatestRecall"
  | 4 => .object "TermReckoner$DaySet"
  | 5 => .object "TermReckoner$DaySet"
  | 6 => .object "TermReckoner$DaySet"
  | 7 => .object "java/lang/StringBuilder"
  | 8 => .int
  | 9 => .int
  | _ => .int
abbrev wsX60 : List Cond := u_ws RX6 TX6 11
theorem nmX6 : ∀ a, a < 11 → ∀ b, b < 11 → a ≠ b → (TX6 a).2.1 ≠ (TX6 b).2.1 := by decide +kernel
theorem tyX6_ok : ∀ k, k < 11 → parseFieldDescriptor (TX6 k).2.2.1 = some (tyX6 k) := by decide +kernel
abbrev cX6_init : ByteArray := prog_1_method_1_code
def yX6_init : MethodName := ⟨RX6, "<init>", "()V"⟩
abbrev cX6_dayNumber : ByteArray := prog_1_method_2_code
def yX6_dayNumber : MethodName := ⟨RX6, "dayNumber", "(III)I"⟩
abbrev cX6_dayNumberByMonths : ByteArray := prog_1_method_3_code
def yX6_dayNumberByMonths : MethodName := ⟨RX6, "dayNumberByMonths", "(III)I"⟩
abbrev cX6_yearOf : ByteArray := prog_1_method_4_code
def yX6_yearOf : MethodName := ⟨RX6, "yearOf", "(I)I"⟩
abbrev cX6_monthOf : ByteArray := prog_1_method_5_code
def yX6_monthOf : MethodName := ⟨RX6, "monthOf", "(I)I"⟩
abbrev cX6_dayOfMonth : ByteArray := prog_1_method_6_code
def yX6_dayOfMonth : MethodName := ⟨RX6, "dayOfMonth", "(I)I"⟩
abbrev cX6_monthsAfter : ByteArray := prog_1_method_7_code
def yX6_monthsAfter : MethodName := ⟨RX6, "monthsAfter", "(II)I"⟩
abbrev cX6_today : ByteArray := prog_1_method_8_code
def yX6_today : MethodName := ⟨RX6, "today", "()I"⟩
abbrev cX6_advance : ByteArray := prog_1_method_9_code
def yX6_advance : MethodName := ⟨RX6, "advance", "(I)I"⟩
abbrev cX6_impose : ByteArray := prog_1_method_10_code
def yX6_impose : MethodName := ⟨RX6, "impose", "(III)I"⟩
abbrev cX6_imposeConsecutive : ByteArray := prog_1_method_11_code
def yX6_imposeConsecutive : MethodName := ⟨RX6, "imposeConsecutive", "(IIII)I"⟩
abbrev cX6_addRemand : ByteArray := prog_1_method_12_code
def yX6_addRemand : MethodName := ⟨RX6, "addRemand", "(III)I"⟩
abbrev cX6_quash : ByteArray := prog_1_method_13_code
def yX6_quash : MethodName := ⟨RX6, "quash", "(I)I"⟩
abbrev cX6_award : ByteArray := prog_1_method_14_code
def yX6_award : MethodName := ⟨RX6, "award", "(I)I"⟩
abbrev cX6_giveBack : ByteArray := prog_1_method_15_code
def yX6_giveBack : MethodName := ⟨RX6, "giveBack", "(II)I"⟩
abbrev cX6_recall : ByteArray := prog_1_method_16_code
def yX6_recall : MethodName := ⟨RX6, "recall", "(I)I"⟩
abbrev cX6_termCount : ByteArray := prog_1_method_17_code
def yX6_termCount : MethodName := ⟨RX6, "termCount", "()I"⟩
abbrev cX6_kindOf : ByteArray := prog_1_method_18_code
def yX6_kindOf : MethodName := ⟨RX6, "kindOf", "(I)I"⟩
abbrev cX6_isQuashed : ByteArray := prog_1_method_19_code
def yX6_isQuashed : MethodName := ⟨RX6, "isQuashed", "(I)Z"⟩
abbrev cX6_parentOf : ByteArray := prog_1_method_20_code
def yX6_parentOf : MethodName := ⟨RX6, "parentOf", "(I)I"⟩
abbrev cX6_chainLength : ByteArray := prog_1_method_21_code
def yX6_chainLength : MethodName := ⟨RX6, "chainLength", "(I)I"⟩
abbrev cX6_descendants : ByteArray := prog_1_method_22_code
def yX6_descendants : MethodName := ⟨RX6, "descendants", "(I)I"⟩
abbrev cX6_start : ByteArray := prog_1_method_23_code
def yX6_start : MethodName := ⟨RX6, "start", "(I)I"⟩
abbrev cX6_length : ByteArray := prog_1_method_24_code
def yX6_length : MethodName := ⟨RX6, "length", "(I)I"⟩
abbrev cX6_totalLength : ByteArray := prog_1_method_25_code
def yX6_totalLength : MethodName := ⟨RX6, "totalLength", "(I)I"⟩
abbrev cX6_custodialPart : ByteArray := prog_1_method_26_code
def yX6_custodialPart : MethodName := ⟨RX6, "custodialPart", "(I)I"⟩
abbrev cX6_credit : ByteArray := prog_1_method_27_code
def yX6_credit : MethodName := ⟨RX6, "credit", "(I)I"⟩
abbrev cX6_creditByMerging : ByteArray := prog_1_method_28_code
def yX6_creditByMerging : MethodName := ⟨RX6, "creditByMerging", "(I)I"⟩
abbrev cX6_addedDays : ByteArray := prog_1_method_29_code
def yX6_addedDays : MethodName := ⟨RX6, "addedDays", "(I)I"⟩
abbrev cX6_releaseDay : ByteArray := prog_1_method_30_code
def yX6_releaseDay : MethodName := ⟨RX6, "releaseDay", "(I)I"⟩
abbrev cX6_releaseDayByServing : ByteArray := prog_1_method_31_code
def yX6_releaseDayByServing : MethodName := ⟨RX6, "releaseDayByServing", "(I)I"⟩
abbrev cX6_endDay : ByteArray := prog_1_method_32_code
def yX6_endDay : MethodName := ⟨RX6, "endDay", "(I)I"⟩
abbrev cX6_status : ByteArray := prog_1_method_33_code
def yX6_status : MethodName := ⟨RX6, "status", "()I"⟩
abbrev cX6_lastRelease : ByteArray := prog_1_method_34_code
def yX6_lastRelease : MethodName := ⟨RX6, "lastRelease", "()I"⟩
abbrev cX6_lastEnd : ByteArray := prog_1_method_35_code
def yX6_lastEnd : MethodName := ⟨RX6, "lastEnd", "()I"⟩
abbrev cX6_decidingTerm : ByteArray := prog_1_method_36_code
def yX6_decidingTerm : MethodName := ⟨RX6, "decidingTerm", "()I"⟩
abbrev cX6_termByRelease : ByteArray := prog_1_method_37_code
def yX6_termByRelease : MethodName := ⟨RX6, "termByRelease", "(I)I"⟩
abbrev cX6_daysInCustodyLeft : ByteArray := prog_1_method_38_code
def yX6_daysInCustodyLeft : MethodName := ⟨RX6, "daysInCustodyLeft", "()I"⟩
abbrev cX6_recallCount : ByteArray := prog_1_method_39_code
def yX6_recallCount : MethodName := ⟨RX6, "recallCount", "()I"⟩
abbrev cX6_recallEnd : ByteArray := prog_1_method_40_code
def yX6_recallEnd : MethodName := ⟨RX6, "recallEnd", "()I"⟩
abbrev cX6_awardDays : ByteArray := prog_1_method_41_code
def yX6_awardDays : MethodName := ⟨RX6, "awardDays", "(I)I"⟩
abbrev cX6_concerns : ByteArray := prog_1_method_42_code
def yX6_concerns : MethodName := ⟨RX6, "concerns", "(II)Z"⟩
abbrev cX6_lastReleaseWithAward : ByteArray := prog_1_method_43_code
def yX6_lastReleaseWithAward : MethodName := ⟨RX6, "lastReleaseWithAward", "(I)I"⟩
abbrev cX6_lastReleaseWithout : ByteArray := prog_1_method_44_code
def yX6_lastReleaseWithout : MethodName := ⟨RX6, "lastReleaseWithout", "(I)I"⟩
abbrev cX6_servedDays : ByteArray := prog_1_method_45_code
def yX6_servedDays : MethodName := ⟨RX6, "servedDays", "()I"⟩
abbrev cX6_licenceDays : ByteArray := prog_1_method_46_code
def yX6_licenceDays : MethodName := ⟨RX6, "licenceDays", "()I"⟩
abbrev cX6_statusOn : ByteArray := prog_1_method_47_code
def yX6_statusOn : MethodName := ⟨RX6, "statusOn", "(I)I"⟩
abbrev cX6_writeHistory : ByteArray := prog_1_method_48_code
def yX6_writeHistory : MethodName := ⟨RX6, "writeHistory", "()I"⟩
abbrev cX6_outputAt : ByteArray := prog_1_method_49_code
def yX6_outputAt : MethodName := ⟨RX6, "outputAt", "(I)C"⟩
abbrev cX6_isConsistent : ByteArray := prog_1_method_50_code
def yX6_isConsistent : MethodName := ⟨RX6, "isConsistent", "()Z"⟩
abbrev cX6_checkDate : ByteArray := prog_1_method_51_code
def yX6_checkDate : MethodName := ⟨RX6, "checkDate", "(III)V"⟩
abbrev cX6_checkDay : ByteArray := prog_1_method_52_code
def yX6_checkDay : MethodName := ⟨RX6, "checkDay", "(I)V"⟩
abbrev cX6_checkSentence : ByteArray := prog_1_method_53_code
def yX6_checkSentence : MethodName := ⟨RX6, "checkSentence", "(III)V"⟩
abbrev cX6_checkAwardDays : ByteArray := prog_1_method_54_code
def yX6_checkAwardDays : MethodName := ⟨RX6, "checkAwardDays", "(I)V"⟩
abbrev cX6_checkRoomForTerm : ByteArray := prog_1_method_55_code
def yX6_checkRoomForTerm : MethodName := ⟨RX6, "checkRoomForTerm", "()V"⟩
abbrev cX6_checkTerm : ByteArray := prog_1_method_56_code
def yX6_checkTerm : MethodName := ⟨RX6, "checkTerm", "(I)V"⟩
abbrev cX6_checkStandingTerm : ByteArray := prog_1_method_57_code
def yX6_checkStandingTerm : MethodName := ⟨RX6, "checkStandingTerm", "(I)V"⟩
abbrev cX6_checkAnyTermStands : ByteArray := prog_1_method_58_code
def yX6_checkAnyTermStands : MethodName := ⟨RX6, "checkAnyTermStands", "()V"⟩
abbrev cX6_checkAward : ByteArray := prog_1_method_59_code
def yX6_checkAward : MethodName := ⟨RX6, "checkAward", "(I)V"⟩
abbrev cX6_within : ByteArray := prog_1_method_60_code
def yX6_within : MethodName := ⟨RX6, "within", "(III)I"⟩
abbrev cX6_addTerm : ByteArray := prog_1_method_61_code
def yX6_addTerm : MethodName := ⟨RX6, "addTerm", "(IIII)I"⟩
abbrev cX6_settle : ByteArray := prog_1_method_62_code
def yX6_settle : MethodName := ⟨RX6, "settle", "()V"⟩
abbrev cX6_markedCredit : ByteArray := prog_1_method_63_code
def yX6_markedCredit : MethodName := ⟨RX6, "markedCredit", "(I)I"⟩
abbrev cX6_mergedCredit : ByteArray := prog_1_method_64_code
def yX6_mergedCredit : MethodName := ⟨RX6, "mergedCredit", "(I)I"⟩
abbrev cX6_unservedDays : ByteArray := prog_1_method_65_code
def yX6_unservedDays : MethodName := ⟨RX6, "unservedDays", "(II)I"⟩
abbrev cX6_releaseIn : ByteArray := prog_1_method_66_code
def yX6_releaseIn : MethodName := ⟨RX6, "releaseIn", "(I)I"⟩
abbrev cX6_servedRelease : ByteArray := prog_1_method_67_code
def yX6_servedRelease : MethodName := ⟨RX6, "servedRelease", "(I)I"⟩
abbrev cX6_termIsConsistent : ByteArray := prog_1_method_68_code
def yX6_termIsConsistent : MethodName := ⟨RX6, "termIsConsistent", "(I)Z"⟩
abbrev cX6_greatestRelease : ByteArray := prog_1_method_69_code
def yX6_greatestRelease : MethodName := ⟨RX6, "greatestRelease", "(II)I"⟩
abbrev cX6_greatestEnd : ByteArray := prog_1_method_70_code
def yX6_greatestEnd : MethodName := ⟨RX6, "greatestEnd", "()I"⟩
abbrev cX6_termsUnreleased : ByteArray := prog_1_method_71_code
def yX6_termsUnreleased : MethodName := ⟨RX6, "termsUnreleased", "()I"⟩
abbrev cX6_placeByRelease : ByteArray := prog_1_method_72_code
def yX6_placeByRelease : MethodName := ⟨RX6, "placeByRelease", "(I)I"⟩
abbrev cX6_comesBefore : ByteArray := prog_1_method_73_code
def yX6_comesBefore : MethodName := ⟨RX6, "comesBefore", "(II)Z"⟩
abbrev cX6_recallsMade : ByteArray := prog_1_method_74_code
def yX6_recallsMade : MethodName := ⟨RX6, "recallsMade", "()I"⟩
abbrev cX6_latestRecallEnd : ByteArray := prog_1_method_75_code
def yX6_latestRecallEnd : MethodName := ⟨RX6, "latestRecallEnd", "()I"⟩
abbrev cX6_recallIsRunning : ByteArray := prog_1_method_76_code
def yX6_recallIsRunning : MethodName := ⟨RX6, "recallIsRunning", "()Z"⟩
abbrev cX6_custodyEnd : ByteArray := prog_1_method_77_code
def yX6_custodyEnd : MethodName := ⟨RX6, "custodyEnd", "()I"⟩
abbrev cX6_currentStatus : ByteArray := prog_1_method_78_code
def yX6_currentStatus : MethodName := ⟨RX6, "currentStatus", "()I"⟩
abbrev cX6_pastStatus : ByteArray := prog_1_method_79_code
def yX6_pastStatus : MethodName := ⟨RX6, "pastStatus", "(I)I"⟩
abbrev cX6_writeRun : ByteArray := prog_1_method_80_code
def yX6_writeRun : MethodName := ⟨RX6, "writeRun", "(II)V"⟩
def RX7 : String := "TermReckonerModel"
def TX7 : u_T := fun k => match k with
  | 0 => ("TermReckonerModel", "thrown", "I", false)
  | 1 => ("TermReckonerModel", "today", "I", false)
  | 2 => ("TermReckonerModel", "past", "[B", true)
  | 3 => ("TermReckonerModel", "unserved", "[I", true)
  | 4 => ("TermReckonerModel", "served", "I", false)
  | 5 => ("TermReckonerModel", "licensed", "I", false)
  | 6 => ("TermReckonerModel", "terms", "I", false)
  | 7 => ("TermReckonerModel", "kind", "[I", true)
  | 8 => ("TermReckonerModel", "months", "[I", true)
  | 9 => ("TermReckonerModel", "extra", "[I", true)
  | 10 => ("TermReckonerModel", "imposed", "[I", true)
  | 11 => ("TermReckonerModel", "begins", "[I", true)
  | 12 => ("TermReckonerModel", "parent", "[I", true)
  | 13 => ("TermReckonerModel", "quashed", "[Z", true)
  | 14 => ("TermReckonerModel", "periods", "I", false)
  | 15 => ("TermReckonerModel", "periodTerm", "[I", true)
  | 16 => ("TermReckonerModel", "periodFirst", "[I", true)
  | 17 => ("TermReckonerModel", "periodLast", "[I", true)
  | 18 => ("TermReckonerModel", "awards", "I", false)
  | 19 => ("TermReckonerModel", "awardLeft", "[I", true)
  | 20 => ("TermReckonerModel", "awardTerms", "[I", true)
  | 21 => ("TermReckonerModel", "awardRecall", "[I", true)
  | 22 => ("TermReckonerModel", "recalls", "I", false)
  | 23 => ("TermReckonerModel", "recallDay", "I", false)
  | 24 => ("TermReckonerModel", "recallDays", "I", false)
  | 25 => ("TermReckonerModel", "recallLimit", "I", false)
  | 26 => ("TermReckonerModel", "told", "I", false)
  | 27 => ("TermReckonerModel", "year", "I", false)
  | 28 => ("TermReckonerModel", "month", "I", false)
  | 29 => ("TermReckonerModel", "dayIn", "I", false)
  | 30 => ("TermReckonerModel", "starts", "[I", true)
  | 31 => ("TermReckonerModel", "lengths", "[I", true)
  | 32 => ("TermReckonerModel", "parts", "[I", true)
  | 33 => ("TermReckonerModel", "firsts", "[I", true)
  | 34 => ("TermReckonerModel", "allLengths", "[I", true)
  | 35 => ("TermReckonerModel", "allParts", "[I", true)
  | 36 => ("TermReckonerModel", "credits", "[I", true)
  | 37 => ("TermReckonerModel", "added", "[I", true)
  | 38 => ("TermReckonerModel", "releases", "[I", true)
  | 39 => ("TermReckonerModel", "ends", "[I", true)
  | 40 => ("TermReckonerModel", "keptParent", "[I", true)
  | _ => ("TermReckonerModel", "keptBegins", "[I", true)
def tyX7 : Nat → FieldType := fun k => match k with
  | 0 => .int
  | 1 => .int
  | 2 => .array .byte
  | 3 => .array .int
  | 4 => .int
  | 5 => .int
  | 6 => .int
  | 7 => .array .int
  | 8 => .array .int
  | 9 => .array .int
  | 10 => .array .int
  | 11 => .array .int
  | 12 => .array .int
  | 13 => .array .boolean
  | 14 => .int
  | 15 => .array .int
  | 16 => .array .int
  | 17 => .array .int
  | 18 => .int
  | 19 => .array .int
  | 20 => .array .int
  | 21 => .array .int
  | 22 => .int
  | 23 => .int
  | 24 => .int
  | 25 => .int
  | 26 => .int
  | 27 => .int
  | 28 => .int
  | 29 => .int
  | 30 => .array .int
  | 31 => .array .int
  | 32 => .array .int
  | 33 => .array .int
  | 34 => .array .int
  | 35 => .array .int
  | 36 => .array .int
  | 37 => .array .int
  | 38 => .array .int
  | 39 => .array .int
  | 40 => .array .int
  | _ => .array .int
abbrev wsX70 : List Cond := u_ws RX7 TX7 42
theorem nmX7 : ∀ a, a < 42 → ∀ b, b < 42 → a ≠ b → (TX7 a).2.1 ≠ (TX7 b).2.1 := by decide +kernel
theorem tyX7_ok : ∀ k, k < 42 → parseFieldDescriptor (TX7 k).2.2.1 = some (tyX7 k) := by decide +kernel
abbrev cX7_init : ByteArray := prog_9_method_1_code
def yX7_init : MethodName := ⟨RX7, "<init>", "()V"⟩
abbrev cX7_thrown : ByteArray := prog_9_method_2_code
def yX7_thrown : MethodName := ⟨RX7, "thrown", "()I"⟩
abbrev cX7_in : ByteArray := prog_9_method_3_code
def yX7_in : MethodName := ⟨RX7, "in", "(III)Z"⟩
abbrev cX7_fails : ByteArray := prog_9_method_4_code
def yX7_fails : MethodName := ⟨RX7, "fails", "(I)Z"⟩
abbrev cX7_daysOfYear : ByteArray := prog_9_method_5_code
def yX7_daysOfYear : MethodName := ⟨RX7, "daysOfYear", "(I)I"⟩
abbrev cX7_daysOfMonth : ByteArray := prog_9_method_6_code
def yX7_daysOfMonth : MethodName := ⟨RX7, "daysOfMonth", "(II)I"⟩
abbrev cX7_number : ByteArray := prog_9_method_7_code
def yX7_number : MethodName := ⟨RX7, "number", "(III)I"⟩
abbrev cX7_splits : ByteArray := prog_9_method_8_code
def yX7_splits : MethodName := ⟨RX7, "splits", "(I)V"⟩
abbrev cX7_later : ByteArray := prog_9_method_9_code
def yX7_later : MethodName := ⟨RX7, "later", "(II)I"⟩
abbrev cX7_dayNumber : ByteArray := prog_9_method_10_code
def yX7_dayNumber : MethodName := ⟨RX7, "dayNumber", "(III)I"⟩
abbrev cX7_dayNumberByMonths : ByteArray := prog_9_method_11_code
def yX7_dayNumberByMonths : MethodName := ⟨RX7, "dayNumberByMonths", "(III)I"⟩
abbrev cX7_isDay : ByteArray := prog_9_method_12_code
def yX7_isDay : MethodName := ⟨RX7, "isDay", "(I)Z"⟩
abbrev cX7_yearOf : ByteArray := prog_9_method_13_code
def yX7_yearOf : MethodName := ⟨RX7, "yearOf", "(I)I"⟩
abbrev cX7_monthOf : ByteArray := prog_9_method_14_code
def yX7_monthOf : MethodName := ⟨RX7, "monthOf", "(I)I"⟩
abbrev cX7_dayOfMonth : ByteArray := prog_9_method_15_code
def yX7_dayOfMonth : MethodName := ⟨RX7, "dayOfMonth", "(I)I"⟩
abbrev cX7_monthsAfter : ByteArray := prog_9_method_16_code
def yX7_monthsAfter : MethodName := ⟨RX7, "monthsAfter", "(II)I"⟩
abbrev cX7_isTerm : ByteArray := prog_9_method_17_code
def yX7_isTerm : MethodName := ⟨RX7, "isTerm", "(I)Z"⟩
abbrev cX7_isIn : ByteArray := prog_9_method_18_code
def yX7_isIn : MethodName := ⟨RX7, "isIn", "(I)Z"⟩
abbrev cX7_partOf : ByteArray := prog_9_method_19_code
def yX7_partOf : MethodName := ⟨RX7, "partOf", "(II)I"⟩
abbrev cX7_isInChain : ByteArray := prog_9_method_20_code
def yX7_isInChain : MethodName := ⟨RX7, "isInChain", "(II)Z"⟩
abbrev cX7_chainSize : ByteArray := prog_9_method_21_code
def yX7_chainSize : MethodName := ⟨RX7, "chainSize", "(I)I"⟩
abbrev cX7_nextPeriod : ByteArray := prog_9_method_22_code
def yX7_nextPeriod : MethodName := ⟨RX7, "nextPeriod", "(II)I"⟩
abbrev cX7_remandOf : ByteArray := prog_9_method_23_code
def yX7_remandOf : MethodName := ⟨RX7, "remandOf", "(I)I"⟩
abbrev cX7_addedTo : ByteArray := prog_9_method_24_code
def yX7_addedTo : MethodName := ⟨RX7, "addedTo", "(I)I"⟩
abbrev cX7_worksTerm : ByteArray := prog_9_method_25_code
def yX7_worksTerm : MethodName := ⟨RX7, "worksTerm", "(I)V"⟩
abbrev cX7_works : ByteArray := prog_9_method_26_code
def yX7_works : MethodName := ⟨RX7, "works", "()V"⟩
abbrev cX7_isAny : ByteArray := prog_9_method_27_code
def yX7_isAny : MethodName := ⟨RX7, "isAny", "()Z"⟩
abbrev cX7_endOfAll : ByteArray := prog_9_method_28_code
def yX7_endOfAll : MethodName := ⟨RX7, "endOfAll", "()I"⟩
abbrev cX7_releaseOfAll : ByteArray := prog_9_method_29_code
def yX7_releaseOfAll : MethodName := ⟨RX7, "releaseOfAll", "()I"⟩
abbrev cX7_endOfRecall : ByteArray := prog_9_method_30_code
def yX7_endOfRecall : MethodName := ⟨RX7, "endOfRecall", "()I"⟩
abbrev cX7_isRecalled : ByteArray := prog_9_method_31_code
def yX7_isRecalled : MethodName := ⟨RX7, "isRecalled", "()Z"⟩
abbrev cX7_statusNow : ByteArray := prog_9_method_32_code
def yX7_statusNow : MethodName := ⟨RX7, "statusNow", "()I"⟩
abbrev cX7_bounds : ByteArray := prog_9_method_33_code
def yX7_bounds : MethodName := ⟨RX7, "bounds", "()V"⟩
abbrev cX7_today : ByteArray := prog_9_method_34_code
def yX7_today : MethodName := ⟨RX7, "today", "()I"⟩
abbrev cX7_advance : ByteArray := prog_9_method_35_code
def yX7_advance : MethodName := ⟨RX7, "advance", "(I)I"⟩
abbrev cX7_isTermOf : ByteArray := prog_9_method_36_code
def yX7_isTermOf : MethodName := ⟨RX7, "isTermOf", "(III)Z"⟩
abbrev cX7_imposes : ByteArray := prog_9_method_37_code
def yX7_imposes : MethodName := ⟨RX7, "imposes", "(IIII)I"⟩
abbrev cX7_impose : ByteArray := prog_9_method_38_code
def yX7_impose : MethodName := ⟨RX7, "impose", "(III)I"⟩
abbrev cX7_canFollow : ByteArray := prog_9_method_39_code
def yX7_canFollow : MethodName := ⟨RX7, "canFollow", "(I)Z"⟩
abbrev cX7_imposeConsecutive : ByteArray := prog_9_method_40_code
def yX7_imposeConsecutive : MethodName := ⟨RX7, "imposeConsecutive", "(IIII)I"⟩
abbrev cX7_canHaveRemand : ByteArray := prog_9_method_41_code
def yX7_canHaveRemand : MethodName := ⟨RX7, "canHaveRemand", "(I)Z"⟩
abbrev cX7_addRemand : ByteArray := prog_9_method_42_code
def yX7_addRemand : MethodName := ⟨RX7, "addRemand", "(III)I"⟩
abbrev cX7_isNext : ByteArray := prog_9_method_43_code
def yX7_isNext : MethodName := ⟨RX7, "isNext", "(II)Z"⟩
abbrev cX7_quashes : ByteArray := prog_9_method_44_code
def yX7_quashes : MethodName := ⟨RX7, "quashes", "(I)I"⟩
abbrev cX7_quash : ByteArray := prog_9_method_45_code
def yX7_quash : MethodName := ⟨RX7, "quash", "(I)I"⟩
abbrev cX7_awards : ByteArray := prog_9_method_46_code
def yX7_awards : MethodName := ⟨RX7, "awards", "(I)V"⟩
abbrev cX7_award : ByteArray := prog_9_method_47_code
def yX7_award : MethodName := ⟨RX7, "award", "(I)I"⟩
abbrev cX7_isAward : ByteArray := prog_9_method_48_code
def yX7_isAward : MethodName := ⟨RX7, "isAward", "(I)Z"⟩
abbrev cX7_giveBack : ByteArray := prog_9_method_49_code
def yX7_giveBack : MethodName := ⟨RX7, "giveBack", "(II)I"⟩
abbrev cX7_recall : ByteArray := prog_9_method_50_code
def yX7_recall : MethodName := ⟨RX7, "recall", "(I)I"⟩
abbrev cX7_termCount : ByteArray := prog_9_method_51_code
def yX7_termCount : MethodName := ⟨RX7, "termCount", "()I"⟩
abbrev cX7_kindOf : ByteArray := prog_9_method_52_code
def yX7_kindOf : MethodName := ⟨RX7, "kindOf", "(I)I"⟩
abbrev cX7_isQuashed : ByteArray := prog_9_method_53_code
def yX7_isQuashed : MethodName := ⟨RX7, "isQuashed", "(I)Z"⟩
abbrev cX7_failsFor : ByteArray := prog_9_method_54_code
def yX7_failsFor : MethodName := ⟨RX7, "failsFor", "(I)Z"⟩
abbrev cX7_parentOf : ByteArray := prog_9_method_55_code
def yX7_parentOf : MethodName := ⟨RX7, "parentOf", "(I)I"⟩
abbrev cX7_chainLength : ByteArray := prog_9_method_56_code
def yX7_chainLength : MethodName := ⟨RX7, "chainLength", "(I)I"⟩
abbrev cX7_descendants : ByteArray := prog_9_method_57_code
def yX7_descendants : MethodName := ⟨RX7, "descendants", "(I)I"⟩
abbrev cX7_start : ByteArray := prog_9_method_58_code
def yX7_start : MethodName := ⟨RX7, "start", "(I)I"⟩
abbrev cX7_length : ByteArray := prog_9_method_59_code
def yX7_length : MethodName := ⟨RX7, "length", "(I)I"⟩
abbrev cX7_totalLength : ByteArray := prog_9_method_60_code
def yX7_totalLength : MethodName := ⟨RX7, "totalLength", "(I)I"⟩
abbrev cX7_custodialPart : ByteArray := prog_9_method_61_code
def yX7_custodialPart : MethodName := ⟨RX7, "custodialPart", "(I)I"⟩
abbrev cX7_credit : ByteArray := prog_9_method_62_code
def yX7_credit : MethodName := ⟨RX7, "credit", "(I)I"⟩
abbrev cX7_creditByMerging : ByteArray := prog_9_method_63_code
def yX7_creditByMerging : MethodName := ⟨RX7, "creditByMerging", "(I)I"⟩
abbrev cX7_addedDays : ByteArray := prog_9_method_64_code
def yX7_addedDays : MethodName := ⟨RX7, "addedDays", "(I)I"⟩
abbrev cX7_releaseDay : ByteArray := prog_9_method_65_code
def yX7_releaseDay : MethodName := ⟨RX7, "releaseDay", "(I)I"⟩
abbrev cX7_releaseDayByServing : ByteArray := prog_9_method_66_code
def yX7_releaseDayByServing : MethodName := ⟨RX7, "releaseDayByServing", "(I)I"⟩
abbrev cX7_endDay : ByteArray := prog_9_method_67_code
def yX7_endDay : MethodName := ⟨RX7, "endDay", "(I)I"⟩
abbrev cX7_status : ByteArray := prog_9_method_68_code
def yX7_status : MethodName := ⟨RX7, "status", "()I"⟩
abbrev cX7_lastRelease : ByteArray := prog_9_method_69_code
def yX7_lastRelease : MethodName := ⟨RX7, "lastRelease", "()I"⟩
abbrev cX7_lastEnd : ByteArray := prog_9_method_70_code
def yX7_lastEnd : MethodName := ⟨RX7, "lastEnd", "()I"⟩
abbrev cX7_decidingTerm : ByteArray := prog_9_method_71_code
def yX7_decidingTerm : MethodName := ⟨RX7, "decidingTerm", "()I"⟩
abbrev cX7_isAhead : ByteArray := prog_9_method_72_code
def yX7_isAhead : MethodName := ⟨RX7, "isAhead", "(II)Z"⟩
abbrev cX7_rank : ByteArray := prog_9_method_73_code
def yX7_rank : MethodName := ⟨RX7, "rank", "(I)I"⟩
abbrev cX7_termByRelease : ByteArray := prog_9_method_74_code
def yX7_termByRelease : MethodName := ⟨RX7, "termByRelease", "(I)I"⟩
abbrev cX7_daysInCustodyLeft : ByteArray := prog_9_method_75_code
def yX7_daysInCustodyLeft : MethodName := ⟨RX7, "daysInCustodyLeft", "()I"⟩
abbrev cX7_recallCount : ByteArray := prog_9_method_76_code
def yX7_recallCount : MethodName := ⟨RX7, "recallCount", "()I"⟩
abbrev cX7_recallEnd : ByteArray := prog_9_method_77_code
def yX7_recallEnd : MethodName := ⟨RX7, "recallEnd", "()I"⟩
abbrev cX7_awardDays : ByteArray := prog_9_method_78_code
def yX7_awardDays : MethodName := ⟨RX7, "awardDays", "(I)I"⟩
abbrev cX7_concerns : ByteArray := prog_9_method_79_code
def yX7_concerns : MethodName := ⟨RX7, "concerns", "(II)Z"⟩
abbrev cX7_lastReleaseWithAward : ByteArray := prog_9_method_80_code
def yX7_lastReleaseWithAward : MethodName := ⟨RX7, "lastReleaseWithAward", "(I)I"⟩
abbrev cX7_lastReleaseWithout : ByteArray := prog_9_method_81_code
def yX7_lastReleaseWithout : MethodName := ⟨RX7, "lastReleaseWithout", "(I)I"⟩
abbrev cX7_servedDays : ByteArray := prog_9_method_82_code
def yX7_servedDays : MethodName := ⟨RX7, "servedDays", "()I"⟩
abbrev cX7_licenceDays : ByteArray := prog_9_method_83_code
def yX7_licenceDays : MethodName := ⟨RX7, "licenceDays", "()I"⟩
abbrev cX7_statusOn : ByteArray := prog_9_method_84_code
def yX7_statusOn : MethodName := ⟨RX7, "statusOn", "(I)I"⟩
abbrev cX7_figures : ByteArray := prog_9_method_85_code
def yX7_figures : MethodName := ⟨RX7, "figures", "(I)I"⟩
abbrev cX7_runFrom : ByteArray := prog_9_method_86_code
def yX7_runFrom : MethodName := ⟨RX7, "runFrom", "(I)I"⟩
abbrev cX7_sizeToTold : ByteArray := prog_9_method_87_code
def yX7_sizeToTold : MethodName := ⟨RX7, "sizeToTold", "()I"⟩
abbrev cX7_writeHistory : ByteArray := prog_9_method_88_code
def yX7_writeHistory : MethodName := ⟨RX7, "writeHistory", "()I"⟩
abbrev cX7_signOf : ByteArray := prog_9_method_89_code
def yX7_signOf : MethodName := ⟨RX7, "signOf", "(III)C"⟩
abbrev cX7_outputAt : ByteArray := prog_9_method_90_code
def yX7_outputAt : MethodName := ⟨RX7, "outputAt", "(I)C"⟩
abbrev cX7_isConsistent : ByteArray := prog_9_method_91_code
def yX7_isConsistent : MethodName := ⟨RX7, "isConsistent", "()Z"⟩
def RJx145de : String := "java/io/Serializable"
def TJx145de : u_T := fun k => match k with
  | _ => ("", "", "", false)
def tyJx145de : Nat → FieldType := fun k => match k with
  | _ => .int
abbrev wsJx145de0 : List Cond := u_ws RJx145de TJx145de 0
theorem nmJx145de : ∀ a, a < 0 → ∀ b, b < 0 → a ≠ b → (TJx145de a).2.1 ≠ (TJx145de b).2.1 := by decide +kernel
theorem tyJx145de_ok : ∀ k, k < 0 → parseFieldDescriptor (TJx145de k).2.2.1 = some (tyJx145de k) := by decide +kernel
def RJ5 : String := "java/lang/AbstractStringBuilder"
def TJ5 : u_T := fun k => match k with
  | _ => ("", "", "", false)
def tyJ5 : Nat → FieldType := fun k => match k with
  | _ => .int
abbrev wsJ50 : List Cond := u_ws RJ5 TJ5 0
theorem nmJ5 : ∀ a, a < 0 → ∀ b, b < 0 → a ≠ b → (TJ5 a).2.1 ≠ (TJ5 b).2.1 := by decide +kernel
theorem tyJ5_ok : ∀ k, k < 0 → parseFieldDescriptor (TJ5 k).2.2.1 = some (tyJ5 k) := by decide +kernel
abbrev cJ5_init_d00df : ByteArray := prog_11_method_2_code
def yJ5_init_d00df : MethodName := ⟨RJ5, "<init>", "(I)V"⟩
abbrev cJ5_length_8abf5 : ByteArray := prog_11_method_6_code
def yJ5_length_8abf5 : MethodName := ⟨RJ5, "length", "()I"⟩
abbrev cJ5_ensureCapacityInternal_d00df : ByteArray := prog_11_method_9_code
def yJ5_ensureCapacityInternal_d00df : MethodName := ⟨RJ5, "ensureCapacityInternal", "(I)V"⟩
abbrev cJ5_newCapacity_0f7a4 : ByteArray := prog_11_method_10_code
def yJ5_newCapacity_0f7a4 : MethodName := ⟨RJ5, "newCapacity", "(I)I"⟩
abbrev cJ5_inflate_da8c8 : ByteArray := prog_11_method_11_code
def yJ5_inflate_da8c8 : MethodName := ⟨RJ5, "inflate", "()V"⟩
abbrev cJ5_setLength_d00df : ByteArray := prog_11_method_13_code
def yJ5_setLength_d00df : MethodName := ⟨RJ5, "setLength", "(I)V"⟩
abbrev cJ5_charAt_5068e : ByteArray := prog_11_method_14_code
def yJ5_charAt_5068e : MethodName := ⟨RJ5, "charAt", "(I)C"⟩
abbrev cJ5_append_cf1ce : ByteArray := prog_11_method_22_code
def yJ5_append_cf1ce : MethodName := ⟨RJ5, "append", "(Ljava/lang/String;)Ljava/lang/AbstractStringBuilder;"⟩
abbrev cJ5_appendNull_278bc : ByteArray := prog_11_method_26_code
def yJ5_appendNull_278bc : MethodName := ⟨RJ5, "appendNull", "()Ljava/lang/AbstractStringBuilder;"⟩
abbrev cJ5_append_3fe6f : ByteArray := prog_11_method_31_code
def yJ5_append_3fe6f : MethodName := ⟨RJ5, "append", "(C)Ljava/lang/AbstractStringBuilder;"⟩
abbrev cJ5_append_c97b9 : ByteArray := prog_11_method_32_code
def yJ5_append_c97b9 : MethodName := ⟨RJ5, "append", "(I)Ljava/lang/AbstractStringBuilder;"⟩
abbrev cJ5_getValue_6d5f1 : ByteArray := prog_11_method_64_code
def yJ5_getValue_6d5f1 : MethodName := ⟨RJ5, "getValue", "()[B"⟩
abbrev cJ5_isLatin1_aae02 : ByteArray := prog_11_method_68_code
def yJ5_isLatin1_aae02 : MethodName := ⟨RJ5, "isLatin1", "()Z"⟩
abbrev cJ5_inflateIfNeededFor_a7421 : ByteArray := prog_11_method_71_code
def yJ5_inflateIfNeededFor_a7421 : MethodName := ⟨RJ5, "inflateIfNeededFor", "(Ljava/lang/String;)V"⟩
abbrev cJ5_putStringAt_47b60 : ByteArray := prog_11_method_73_code
def yJ5_putStringAt_47b60 : MethodName := ⟨RJ5, "putStringAt", "(ILjava/lang/String;)V"⟩
def RJx2cfe8 : String := "java/lang/Appendable"
def TJx2cfe8 : u_T := fun k => match k with
  | _ => ("", "", "", false)
def tyJx2cfe8 : Nat → FieldType := fun k => match k with
  | _ => .int
abbrev wsJx2cfe80 : List Cond := u_ws RJx2cfe8 TJx2cfe8 0
theorem nmJx2cfe8 : ∀ a, a < 0 → ∀ b, b < 0 → a ≠ b → (TJx2cfe8 a).2.1 ≠ (TJx2cfe8 b).2.1 := by decide +kernel
theorem tyJx2cfe8_ok : ∀ k, k < 0 → parseFieldDescriptor (TJx2cfe8 k).2.2.1 = some (tyJx2cfe8 k) := by decide +kernel
def RJx00060 : String := "java/lang/ArrayIndexOutOfBoundsException"
def TJx00060 : u_T := fun k => match k with
  | 0 => ("java/lang/Throwable", "cause", "Ljava/lang/Throwable;", false)
  | 1 => ("java/lang/Throwable", "stackTrace", "[Ljava/lang/StackTraceElement;", false)
  | 2 => ("java/lang/Throwable", "suppressedExceptions", "Ljava/util/List;", false)
  | 3 => ("java/lang/Throwable", "detailMessage", "Ljava/lang/String;", false)
  | 4 => ("java/lang/Throwable", "backtrace", "Ljava/lang/Object;", false)
  | _ => ("java/lang/Throwable", "depth", "I", false)
def tyJx00060 : Nat → FieldType := fun k => match k with
  | 0 => .object "java/lang/Throwable"
  | 1 => .array (.object "java/lang/StackTraceElement")
  | 2 => .object "java/util/List"
  | 3 => .object "java/lang/String"
  | 4 => .object "java/lang/Object"
  | _ => .int
abbrev wsJx000600 : List Cond := u_ws RJx00060 TJx00060 6
theorem nmJx00060 : ∀ a, a < 6 → ∀ b, b < 6 → a ≠ b → (TJx00060 a).2.1 ≠ (TJx00060 b).2.1 := by decide +kernel
theorem tyJx00060_ok : ∀ k, k < 6 → parseFieldDescriptor (TJx00060 k).2.2.1 = some (tyJx00060 k) := by decide +kernel
abbrev cJx00060_init_d00df : ByteArray := prog_13_method_3_code
def yJx00060_init_d00df : MethodName := ⟨RJx00060, "<init>", "(I)V"⟩
def RJx9f9b0 : String := "java/lang/CharSequence"
def TJx9f9b0 : u_T := fun k => match k with
  | _ => ("", "", "", false)
def tyJx9f9b0 : Nat → FieldType := fun k => match k with
  | _ => .int
abbrev wsJx9f9b00 : List Cond := u_ws RJx9f9b0 TJx9f9b0 0
theorem nmJx9f9b0 : ∀ a, a < 0 → ∀ b, b < 0 → a ≠ b → (TJx9f9b0 a).2.1 ≠ (TJx9f9b0 b).2.1 := by decide +kernel
theorem tyJx9f9b0_ok : ∀ k, k < 0 → parseFieldDescriptor (TJx9f9b0 k).2.2.1 = some (tyJx9f9b0 k) := by decide +kernel
def RJx8e188 : String := "java/lang/Cloneable"
def TJx8e188 : u_T := fun k => match k with
  | _ => ("", "", "", false)
def tyJx8e188 : Nat → FieldType := fun k => match k with
  | _ => .int
abbrev wsJx8e1880 : List Cond := u_ws RJx8e188 TJx8e188 0
theorem nmJx8e188 : ∀ a, a < 0 → ∀ b, b < 0 → a ≠ b → (TJx8e188 a).2.1 ≠ (TJx8e188 b).2.1 := by decide +kernel
theorem tyJx8e188_ok : ∀ k, k < 0 → parseFieldDescriptor (TJx8e188 k).2.2.1 = some (tyJx8e188 k) := by decide +kernel
def RJxb160c : String := "java/lang/Comparable"
def TJxb160c : u_T := fun k => match k with
  | _ => ("", "", "", false)
def tyJxb160c : Nat → FieldType := fun k => match k with
  | _ => .int
abbrev wsJxb160c0 : List Cond := u_ws RJxb160c TJxb160c 0
theorem nmJxb160c : ∀ a, a < 0 → ∀ b, b < 0 → a ≠ b → (TJxb160c a).2.1 ≠ (TJxb160c b).2.1 := by decide +kernel
theorem tyJxb160c_ok : ∀ k, k < 0 → parseFieldDescriptor (TJxb160c k).2.2.1 = some (tyJxb160c k) := by decide +kernel
def RJ6 : String := "java/lang/Integer"
def TJ6 : u_T := fun k => match k with
  | _ => ("", "", "", false)
def tyJ6 : Nat → FieldType := fun k => match k with
  | _ => .int
abbrev wsJ60 : List Cond := u_ws RJ6 TJ6 0
theorem nmJ6 : ∀ a, a < 0 → ∀ b, b < 0 → a ≠ b → (TJ6 a).2.1 ≠ (TJ6 b).2.1 := by decide +kernel
theorem tyJ6_ok : ∀ k, k < 0 → parseFieldDescriptor (TJ6 k).2.2.1 = some (tyJ6 k) := by decide +kernel
abbrev cJ6_getChars_ba4f3 : ByteArray := prog_21_method_12_code
def yJ6_getChars_ba4f3 : MethodName := ⟨RJ6, "getChars", "(II[B)I"⟩
abbrev cJ6_stringSize_0f7a4 : ByteArray := prog_21_method_13_code
def yJ6_stringSize_0f7a4 : MethodName := ⟨RJ6, "stringSize", "(I)I"⟩
abbrev cJ6_compare_7cf53 : ByteArray := prog_21_method_40_code
def yJ6_compare_7cf53 : MethodName := ⟨RJ6, "compare", "(II)I"⟩
abbrev cJ6_bitCount_0f7a4 : ByteArray := prog_21_method_49_code
def yJ6_bitCount_0f7a4 : MethodName := ⟨RJ6, "bitCount", "(I)I"⟩
def RJ13 : String := "java/lang/Long"
def TJ13 : u_T := fun k => match k with
  | _ => ("", "", "", false)
def tyJ13 : Nat → FieldType := fun k => match k with
  | _ => .int
abbrev wsJ130 : List Cond := u_ws RJ13 TJ13 0
theorem nmJ13 : ∀ a, a < 0 → ∀ b, b < 0 → a ≠ b → (TJ13 a).2.1 ≠ (TJ13 b).2.1 := by decide +kernel
theorem tyJ13_ok : ∀ k, k < 0 → parseFieldDescriptor (TJ13 k).2.2.1 = some (tyJ13 k) := by decide +kernel
abbrev cJ13_bitCount_95d88 : ByteArray := prog_22_method_50_code
def yJ13_bitCount_95d88 : MethodName := ⟨RJ13, "bitCount", "(J)I"⟩
def RJ9 : String := "java/lang/Math"
def TJ9 : u_T := fun k => match k with
  | _ => ("", "", "", false)
def tyJ9 : Nat → FieldType := fun k => match k with
  | _ => .int
abbrev wsJ90 : List Cond := u_ws RJ9 TJ9 0
theorem nmJ9 : ∀ a, a < 0 → ∀ b, b < 0 → a ≠ b → (TJ9 a).2.1 ≠ (TJ9 b).2.1 := by decide +kernel
theorem tyJ9_ok : ∀ k, k < 0 → parseFieldDescriptor (TJ9 k).2.2.1 = some (tyJ9 k) := by decide +kernel
abbrev cJ9_max_7cf53 : ByteArray := prog_23_method_65_code
def yJ9_max_7cf53 : MethodName := ⟨RJ9, "max", "(II)I"⟩
abbrev cJ9_min_7cf53 : ByteArray := prog_23_method_69_code
def yJ9_min_7cf53 : MethodName := ⟨RJ9, "min", "(II)I"⟩
def RJxd2413 : String := "java/lang/Number"
def TJxd2413 : u_T := fun k => match k with
  | _ => ("", "", "", false)
def tyJxd2413 : Nat → FieldType := fun k => match k with
  | _ => .int
abbrev wsJxd24130 : List Cond := u_ws RJxd2413 TJxd2413 0
theorem nmJxd2413 : ∀ a, a < 0 → ∀ b, b < 0 → a ≠ b → (TJxd2413 a).2.1 ≠ (TJxd2413 b).2.1 := by decide +kernel
theorem tyJxd2413_ok : ∀ k, k < 0 → parseFieldDescriptor (TJxd2413 k).2.2.1 = some (tyJxd2413 k) := by decide +kernel
def RJ0 : String := "java/lang/String"
def TJ0 : u_T := fun k => match k with
  | 0 => ("java/lang/String", "value", "[B", true)
  | 1 => ("java/lang/String", "coder", "B", true)
  | 2 => ("java/lang/String", "hash", "I", false)
  | _ => ("java/lang/String", "hashIsZero", "Z", false)
def tyJ0 : Nat → FieldType := fun k => match k with
  | 0 => .array .byte
  | 1 => .byte
  | 2 => .int
  | _ => .boolean
abbrev wsJ00 : List Cond := u_ws RJ0 TJ0 4
theorem nmJ0 : ∀ a, a < 4 → ∀ b, b < 4 → a ≠ b → (TJ0 a).2.1 ≠ (TJ0 b).2.1 := by decide +kernel
theorem tyJ0_ok : ∀ k, k < 4 → parseFieldDescriptor (TJ0 k).2.2.1 = some (tyJ0 k) := by decide +kernel
abbrev cJ0_init_81219 : ByteArray := prog_26_method_53_code
def yJ0_init_81219 : MethodName := ⟨RJ0, "<init>", "(Ljava/lang/StringBuilder;)V"⟩
abbrev cJ0_length_8abf5 : ByteArray := prog_26_method_54_code
def yJ0_length_8abf5 : MethodName := ⟨RJ0, "length", "()I"⟩
abbrev cJ0_getBytes_840e7 : ByteArray := prog_26_method_147_code
def yJ0_getBytes_840e7 : MethodName := ⟨RJ0, "getBytes", "([BIB)V"⟩
abbrev cJ0_init_db425 : ByteArray := prog_26_method_150_code
def yJ0_init_db425 : MethodName := ⟨RJ0, "<init>", "(Ljava/lang/AbstractStringBuilder;Ljava/lang/Void;)V"⟩
abbrev cJ0_coder_7d493 : ByteArray := prog_26_method_152_code
def yJ0_coder_7d493 : MethodName := ⟨RJ0, "coder", "()B"⟩
abbrev cJ0_checkIndex_df160 : ByteArray := prog_26_method_155_code
def yJ0_checkIndex_df160 : MethodName := ⟨RJ0, "checkIndex", "(II)V"⟩
abbrev cJ0_checkBoundsOffCount_cabcc : ByteArray := prog_26_method_157_code
def yJ0_checkBoundsOffCount_cabcc : MethodName := ⟨RJ0, "checkBoundsOffCount", "(III)I"⟩
abbrev cJ0_checkBoundsBeginEnd_23922 : ByteArray := prog_26_method_158_code
def yJ0_checkBoundsBeginEnd_23922 : MethodName := ⟨RJ0, "checkBoundsBeginEnd", "(III)V"⟩
def RJ4 : String := "java/lang/StringBuilder"
def TJ4 : u_T := fun k => match k with
  | 0 => ("java/lang/AbstractStringBuilder", "value", "[B", false)
  | 1 => ("java/lang/AbstractStringBuilder", "coder", "B", false)
  | 2 => ("java/lang/AbstractStringBuilder", "maybeLatin1", "Z", false)
  | _ => ("java/lang/AbstractStringBuilder", "count", "I", false)
def tyJ4 : Nat → FieldType := fun k => match k with
  | 0 => .array .byte
  | 1 => .byte
  | 2 => .boolean
  | _ => .int
abbrev wsJ40 : List Cond := u_ws RJ4 TJ4 4
theorem nmJ4 : ∀ a, a < 4 → ∀ b, b < 4 → a ≠ b → (TJ4 a).2.1 ≠ (TJ4 b).2.1 := by decide +kernel
theorem tyJ4_ok : ∀ k, k < 4 → parseFieldDescriptor (TJ4 k).2.2.1 = some (tyJ4 k) := by decide +kernel
abbrev cJ4_init_da8c8 : ByteArray := prog_27_method_1_code
def yJ4_init_da8c8 : MethodName := ⟨RJ4, "<init>", "()V"⟩
abbrev cJ4_append_15ec4 : ByteArray := prog_27_method_7_code
def yJ4_append_15ec4 : MethodName := ⟨RJ4, "append", "(Ljava/lang/String;)Ljava/lang/StringBuilder;"⟩
abbrev cJ4_append_cf468 : ByteArray := prog_27_method_14_code
def yJ4_append_cf468 : MethodName := ⟨RJ4, "append", "(C)Ljava/lang/StringBuilder;"⟩
abbrev cJ4_append_bf812 : ByteArray := prog_27_method_15_code
def yJ4_append_bf812 : MethodName := ⟨RJ4, "append", "(I)Ljava/lang/StringBuilder;"⟩
abbrev cJ4_toString_0e30d : ByteArray := prog_27_method_42_code
def yJ4_toString_0e30d : MethodName := ⟨RJ4, "toString", "()Ljava/lang/String;"⟩
abbrev cJ4_charAt_5068e : ByteArray := prog_27_method_88_code
def yJ4_charAt_5068e : MethodName := ⟨RJ4, "charAt", "(I)C"⟩
abbrev cJ4_setLength_d00df : ByteArray := prog_27_method_89_code
def yJ4_setLength_d00df : MethodName := ⟨RJ4, "setLength", "(I)V"⟩
abbrev cJ4_length_8abf5 : ByteArray := prog_27_method_93_code
def yJ4_length_8abf5 : MethodName := ⟨RJ4, "length", "()I"⟩
def RJx7c733 : String := "java/lang/StringIndexOutOfBoundsException"
def TJx7c733 : u_T := fun k => match k with
  | 0 => ("java/lang/Throwable", "backtrace", "Ljava/lang/Object;", false)
  | 1 => ("java/lang/Throwable", "detailMessage", "Ljava/lang/String;", false)
  | 2 => ("java/lang/Throwable", "cause", "Ljava/lang/Throwable;", false)
  | 3 => ("java/lang/Throwable", "stackTrace", "[Ljava/lang/StackTraceElement;", false)
  | 4 => ("java/lang/Throwable", "depth", "I", false)
  | _ => ("java/lang/Throwable", "suppressedExceptions", "Ljava/util/List;", false)
def tyJx7c733 : Nat → FieldType := fun k => match k with
  | 0 => .object "java/lang/Object"
  | 1 => .object "java/lang/String"
  | 2 => .object "java/lang/Throwable"
  | 3 => .array (.object "java/lang/StackTraceElement")
  | 4 => .int
  | _ => .object "java/util/List"
abbrev wsJx7c7330 : List Cond := u_ws RJx7c733 TJx7c733 6
theorem nmJx7c733 : ∀ a, a < 6 → ∀ b, b < 6 → a ≠ b → (TJx7c733 a).2.1 ≠ (TJx7c733 b).2.1 := by decide +kernel
theorem tyJx7c733_ok : ∀ k, k < 6 → parseFieldDescriptor (TJx7c733 k).2.2.1 = some (tyJx7c733 k) := by decide +kernel
abbrev cJx7c733_init_d00df : ByteArray := prog_28_method_3_code
def yJx7c733_init_d00df : MethodName := ⟨RJx7c733, "<init>", "(I)V"⟩
def RJ1 : String := "java/lang/StringLatin1"
def TJ1 : u_T := fun k => match k with
  | _ => ("", "", "", false)
def tyJ1 : Nat → FieldType := fun k => match k with
  | _ => .int
abbrev wsJ10 : List Cond := u_ws RJ1 TJ1 0
theorem nmJ1 : ∀ a, a < 0 → ∀ b, b < 0 → a ≠ b → (TJ1 a).2.1 ≠ (TJ1 b).2.1 := by decide +kernel
theorem tyJ1_ok : ∀ k, k < 0 → parseFieldDescriptor (TJ1 k).2.2.1 = some (tyJ1 k) := by decide +kernel
abbrev cJ1_canEncode_fc78d : ByteArray := prog_29_method_3_code
def yJ1_canEncode_fc78d : MethodName := ⟨RJ1, "canEncode", "(C)Z"⟩
abbrev cJ1_fillNull_b72d1 : ByteArray := prog_29_method_48_code
def yJ1_fillNull_b72d1 : MethodName := ⟨RJ1, "fillNull", "([BII)V"⟩
abbrev cJ1_inflate_0e8fd : ByteArray := prog_29_method_50_code
def yJ1_inflate_0e8fd : MethodName := ⟨RJ1, "inflate", "([BI[BII)V"⟩
def RJ2 : String := "java/lang/StringUTF16"
def TJ2 : u_T := fun k => match k with
  | _ => ("", "", "", false)
def tyJ2 : Nat → FieldType := fun k => match k with
  | _ => .int
abbrev wsJ20 : List Cond := u_ws RJ2 TJ2 0
theorem nmJ2 : ∀ a, a < 0 → ∀ b, b < 0 → a ≠ b → (TJ2 a).2.1 ≠ (TJ2 b).2.1 := by decide +kernel
theorem tyJ2_ok : ∀ k, k < 0 → parseFieldDescriptor (TJ2 k).2.2.1 = some (tyJ2 k) := by decide +kernel
abbrev cJ2_newBytesFor_77867 : ByteArray := prog_30_method_2_code
def yJ2_newBytesFor_77867 : MethodName := ⟨RJ2, "newBytesFor", "(I)[B"⟩
abbrev cJ2_newBytesLength_0f7a4 : ByteArray := prog_30_method_3_code
def yJ2_newBytesLength_0f7a4 : MethodName := ⟨RJ2, "newBytesLength", "(I)I"⟩
abbrev cJ2_putChar_b72d1 : ByteArray := prog_30_method_4_code
def yJ2_putChar_b72d1 : MethodName := ⟨RJ2, "putChar", "([BII)V"⟩
abbrev cJ2_getChar_3b067 : ByteArray := prog_30_method_5_code
def yJ2_getChar_3b067 : MethodName := ⟨RJ2, "getChar", "([BI)C"⟩
abbrev cJ2_length_9d52b : ByteArray := prog_30_method_6_code
def yJ2_length_9d52b : MethodName := ⟨RJ2, "length", "([B)I"⟩
abbrev cJ2_coderFromArrayLen_85cad : ByteArray := prog_30_method_15_code
def yJ2_coderFromArrayLen_85cad : MethodName := ⟨RJ2, "coderFromArrayLen", "([BI)B"⟩
abbrev cJ2_compress_39247 : ByteArray := prog_30_method_17_code
def yJ2_compress_39247 : MethodName := ⟨RJ2, "compress", "([BII)[B"⟩
abbrev cJ2_compress_5af95 : ByteArray := prog_30_method_22_code
def yJ2_compress_5af95 : MethodName := ⟨RJ2, "compress", "([BI[BII)I"⟩
abbrev cJ2_fillNull_b72d1 : ByteArray := prog_30_method_70_code
def yJ2_fillNull_b72d1 : MethodName := ⟨RJ2, "fillNull", "([BII)V"⟩
abbrev cJ2_putCharSB_b72d1 : ByteArray := prog_30_method_71_code
def yJ2_putCharSB_b72d1 : MethodName := ⟨RJ2, "putCharSB", "([BII)V"⟩
abbrev cJ2_getChars_46870 : ByteArray := prog_30_method_77_code
def yJ2_getChars_46870 : MethodName := ⟨RJ2, "getChars", "(III[B)I"⟩
abbrev cJ2_putCharsAt_cd4e5 : ByteArray := prog_30_method_81_code
def yJ2_putCharsAt_cd4e5 : MethodName := ⟨RJ2, "putCharsAt", "([BICCCC)I"⟩
abbrev cJ2_inflate_0e8fd : ByteArray := prog_30_method_86_code
def yJ2_inflate_0e8fd : MethodName := ⟨RJ2, "inflate", "([BI[BII)V"⟩
abbrev cJ2_getChars_ba4f3 : ByteArray := prog_30_method_89_code
def yJ2_getChars_ba4f3 : MethodName := ⟨RJ2, "getChars", "(II[B)I"⟩
abbrev cJ2_checkIndex_2214a : ByteArray := prog_30_method_91_code
def yJ2_checkIndex_2214a : MethodName := ⟨RJ2, "checkIndex", "(I[B)V"⟩
abbrev cJ2_checkBoundsBeginEnd_d044e : ByteArray := prog_30_method_93_code
def yJ2_checkBoundsBeginEnd_d044e : MethodName := ⟨RJ2, "checkBoundsBeginEnd", "(II[B)V"⟩
abbrev cJ2_checkBoundsOffCount_d044e : ByteArray := prog_30_method_94_code
def yJ2_checkBoundsOffCount_d044e : MethodName := ⟨RJ2, "checkBoundsOffCount", "(II[B)V"⟩
def RJ10 : String := "java/lang/System"
def TJ10 : u_T := fun k => match k with
  | _ => ("", "", "", false)
def tyJ10 : Nat → FieldType := fun k => match k with
  | _ => .int
abbrev wsJ100 : List Cond := u_ws RJ10 TJ10 0
theorem nmJ10 : ∀ a, a < 0 → ∀ b, b < 0 → a ≠ b → (TJ10 a).2.1 ≠ (TJ10 b).2.1 := by decide +kernel
theorem tyJ10_ok : ∀ k, k < 0 → parseFieldDescriptor (TJ10 k).2.2.1 = some (tyJ10 k) := by decide +kernel
def RJxfd54e : String := "java/lang/constant/Constable"
def TJxfd54e : u_T := fun k => match k with
  | _ => ("", "", "", false)
def tyJxfd54e : Nat → FieldType := fun k => match k with
  | _ => .int
abbrev wsJxfd54e0 : List Cond := u_ws RJxfd54e TJxfd54e 0
theorem nmJxfd54e : ∀ a, a < 0 → ∀ b, b < 0 → a ≠ b → (TJxfd54e a).2.1 ≠ (TJxfd54e b).2.1 := by decide +kernel
theorem tyJxfd54e_ok : ∀ k, k < 0 → parseFieldDescriptor (TJxfd54e k).2.2.1 = some (tyJxfd54e k) := by decide +kernel
def RJx3cf43 : String := "java/lang/constant/ConstantDesc"
def TJx3cf43 : u_T := fun k => match k with
  | _ => ("", "", "", false)
def tyJx3cf43 : Nat → FieldType := fun k => match k with
  | _ => .int
abbrev wsJx3cf430 : List Cond := u_ws RJx3cf43 TJx3cf43 0
theorem nmJx3cf43 : ∀ a, a < 0 → ∀ b, b < 0 → a ≠ b → (TJx3cf43 a).2.1 ≠ (TJx3cf43 b).2.1 := by decide +kernel
theorem tyJx3cf43_ok : ∀ k, k < 0 → parseFieldDescriptor (TJx3cf43 k).2.2.1 = some (tyJx3cf43 k) := by decide +kernel
def RJ7 : String := "java/util/Arrays"
def TJ7 : u_T := fun k => match k with
  | _ => ("", "", "", false)
def tyJ7 : Nat → FieldType := fun k => match k with
  | _ => .int
abbrev wsJ70 : List Cond := u_ws RJ7 TJ7 0
theorem nmJ7 : ∀ a, a < 0 → ∀ b, b < 0 → a ≠ b → (TJ7 a).2.1 ≠ (TJ7 b).2.1 := by decide +kernel
theorem tyJ7_ok : ∀ k, k < 0 → parseFieldDescriptor (TJ7 k).2.2.1 = some (tyJ7 k) := by decide +kernel
abbrev cJ7_rangeCheck_23922 : ByteArray := prog_35_method_30_code
def yJ7_rangeCheck_23922 : MethodName := ⟨RJ7, "rangeCheck", "(III)V"⟩
abbrev cJ7_fill_d0a16 : ByteArray := prog_35_method_101_code
def yJ7_fill_d0a16 : MethodName := ⟨RJ7, "fill", "([JJ)V"⟩
abbrev cJ7_fill_eb02e : ByteArray := prog_35_method_110_code
def yJ7_fill_eb02e : MethodName := ⟨RJ7, "fill", "([BIIB)V"⟩
abbrev cJ7_copyOf_9075b : ByteArray := prog_35_method_121_code
def yJ7_copyOf_9075b : MethodName := ⟨RJ7, "copyOf", "([BI)[B"⟩
abbrev cJ7_checkLength_df160 : ByteArray := prog_35_method_131_code
def yJ7_checkLength_df160 : MethodName := ⟨RJ7, "checkLength", "(II)V"⟩
abbrev cJ7_copyOfRange_39247 : ByteArray := prog_35_method_132_code
def yJ7_copyOfRange_39247 : MethodName := ⟨RJ7, "copyOfRange", "([BII)[B"⟩
abbrev cJ7_copyOfRangeByte_39247 : ByteArray := prog_35_method_133_code
def yJ7_copyOfRangeByte_39247 : MethodName := ⟨RJ7, "copyOfRangeByte", "([BII)[B"⟩
def RJ8 : String := "jdk/internal/util/ArraysSupport"
def TJ8 : u_T := fun k => match k with
  | _ => ("", "", "", false)
def tyJ8 : Nat → FieldType := fun k => match k with
  | _ => .int
abbrev wsJ80 : List Cond := u_ws RJ8 TJ8 0
theorem nmJ8 : ∀ a, a < 0 → ∀ b, b < 0 → a ≠ b → (TJ8 a).2.1 ≠ (TJ8 b).2.1 := by decide +kernel
theorem tyJ8_ok : ∀ k, k < 0 → parseFieldDescriptor (TJ8 k).2.2.1 = some (tyJ8 k) := by decide +kernel
abbrev cJ8_newLength_cabcc : ByteArray := prog_37_method_27_code
def yJ8_newLength_cabcc : MethodName := ⟨RJ8, "newLength", "(III)I"⟩
abbrev cJ8_hugeLength_7cf53 : ByteArray := prog_37_method_28_code
def yJ8_hugeLength_7cf53 : MethodName := ⟨RJ8, "hugeLength", "(II)I"⟩
def RJ3 : String := "jdk/internal/util/Preconditions"
def TJ3 : u_T := fun k => match k with
  | _ => ("", "", "", false)
def tyJ3 : Nat → FieldType := fun k => match k with
  | _ => .int
abbrev wsJ30 : List Cond := u_ws RJ3 TJ3 0
theorem nmJ3 : ∀ a, a < 0 → ∀ b, b < 0 → a ≠ b → (TJ3 a).2.1 ≠ (TJ3 b).2.1 := by decide +kernel
theorem tyJ3_ok : ∀ k, k < 0 → parseFieldDescriptor (TJ3 k).2.2.1 = some (tyJ3 k) := by decide +kernel
abbrev cJ3_checkIndex_8e157 : ByteArray := prog_38_method_11_code
def yJ3_checkIndex_8e157 : MethodName := ⟨RJ3, "checkIndex", "(IILjava/util/function/BiFunction;)I"⟩
abbrev cJ3_checkFromToIndex_8c36e : ByteArray := prog_38_method_12_code
def yJ3_checkFromToIndex_8c36e : MethodName := ⟨RJ3, "checkFromToIndex", "(IIILjava/util/function/BiFunction;)I"⟩
abbrev cJ3_checkFromIndexSize_8c36e : ByteArray := prog_38_method_13_code
def yJ3_checkFromIndexSize_8c36e : MethodName := ⟨RJ3, "checkFromIndexSize", "(IIILjava/util/function/BiFunction;)I"⟩
def RL : String := "TermReckonerLaw"
abbrev cL_dayNumber : ByteArray := method_3_code
def yL_dayNumber : MethodName := ⟨RL, "dayNumber", "(LTermReckoner;III[J)I"⟩
abbrev cL_dayNumberByMonths : ByteArray := method_4_code
def yL_dayNumberByMonths : MethodName := ⟨RL, "dayNumberByMonths", "(LTermReckoner;III[J)I"⟩
abbrev cL_yearOf : ByteArray := method_5_code
def yL_yearOf : MethodName := ⟨RL, "yearOf", "(LTermReckoner;I[J)I"⟩
abbrev cL_monthOf : ByteArray := method_6_code
def yL_monthOf : MethodName := ⟨RL, "monthOf", "(LTermReckoner;I[J)I"⟩
abbrev cL_dayOfMonth : ByteArray := method_7_code
def yL_dayOfMonth : MethodName := ⟨RL, "dayOfMonth", "(LTermReckoner;I[J)I"⟩
abbrev cL_monthsAfter : ByteArray := method_8_code
def yL_monthsAfter : MethodName := ⟨RL, "monthsAfter", "(LTermReckoner;II[J)I"⟩
abbrev cL_advance : ByteArray := method_9_code
def yL_advance : MethodName := ⟨RL, "advance", "(LTermReckoner;I[J)I"⟩
abbrev cL_impose : ByteArray := method_10_code
def yL_impose : MethodName := ⟨RL, "impose", "(LTermReckoner;III[J)I"⟩
abbrev cL_imposeConsecutive : ByteArray := method_11_code
def yL_imposeConsecutive : MethodName := ⟨RL, "imposeConsecutive", "(LTermReckoner;IIII[J)I"⟩
abbrev cL_addRemand : ByteArray := method_12_code
def yL_addRemand : MethodName := ⟨RL, "addRemand", "(LTermReckoner;III[J)I"⟩
abbrev cL_quash : ByteArray := method_13_code
def yL_quash : MethodName := ⟨RL, "quash", "(LTermReckoner;I[J)I"⟩
abbrev cL_award : ByteArray := method_14_code
def yL_award : MethodName := ⟨RL, "award", "(LTermReckoner;I[J)I"⟩
abbrev cL_giveBack : ByteArray := method_15_code
def yL_giveBack : MethodName := ⟨RL, "giveBack", "(LTermReckoner;II[J)I"⟩
abbrev cL_recall : ByteArray := method_16_code
def yL_recall : MethodName := ⟨RL, "recall", "(LTermReckoner;I[J)I"⟩
abbrev cL_kindOf : ByteArray := method_17_code
def yL_kindOf : MethodName := ⟨RL, "kindOf", "(LTermReckoner;I[J)I"⟩
abbrev cL_isQuashed : ByteArray := method_18_code
def yL_isQuashed : MethodName := ⟨RL, "isQuashed", "(LTermReckoner;I[J)I"⟩
abbrev cL_parentOf : ByteArray := method_19_code
def yL_parentOf : MethodName := ⟨RL, "parentOf", "(LTermReckoner;I[J)I"⟩
abbrev cL_chainLength : ByteArray := method_20_code
def yL_chainLength : MethodName := ⟨RL, "chainLength", "(LTermReckoner;I[J)I"⟩
abbrev cL_descendants : ByteArray := method_21_code
def yL_descendants : MethodName := ⟨RL, "descendants", "(LTermReckoner;I[J)I"⟩
abbrev cL_start : ByteArray := method_22_code
def yL_start : MethodName := ⟨RL, "start", "(LTermReckoner;I[J)I"⟩
abbrev cL_length : ByteArray := method_23_code
def yL_length : MethodName := ⟨RL, "length", "(LTermReckoner;I[J)I"⟩
abbrev cL_totalLength : ByteArray := method_24_code
def yL_totalLength : MethodName := ⟨RL, "totalLength", "(LTermReckoner;I[J)I"⟩
abbrev cL_custodialPart : ByteArray := method_25_code
def yL_custodialPart : MethodName := ⟨RL, "custodialPart", "(LTermReckoner;I[J)I"⟩
abbrev cL_credit : ByteArray := method_26_code
def yL_credit : MethodName := ⟨RL, "credit", "(LTermReckoner;I[J)I"⟩
abbrev cL_creditByMerging : ByteArray := method_27_code
def yL_creditByMerging : MethodName := ⟨RL, "creditByMerging", "(LTermReckoner;I[J)I"⟩
abbrev cL_addedDays : ByteArray := method_28_code
def yL_addedDays : MethodName := ⟨RL, "addedDays", "(LTermReckoner;I[J)I"⟩
abbrev cL_releaseDay : ByteArray := method_29_code
def yL_releaseDay : MethodName := ⟨RL, "releaseDay", "(LTermReckoner;I[J)I"⟩
abbrev cL_releaseDayByServing : ByteArray := method_30_code
def yL_releaseDayByServing : MethodName := ⟨RL, "releaseDayByServing", "(LTermReckoner;I[J)I"⟩
abbrev cL_endDay : ByteArray := method_31_code
def yL_endDay : MethodName := ⟨RL, "endDay", "(LTermReckoner;I[J)I"⟩
abbrev cL_lastRelease : ByteArray := method_32_code
def yL_lastRelease : MethodName := ⟨RL, "lastRelease", "(LTermReckoner;[J)I"⟩
abbrev cL_lastEnd : ByteArray := method_33_code
def yL_lastEnd : MethodName := ⟨RL, "lastEnd", "(LTermReckoner;[J)I"⟩
abbrev cL_decidingTerm : ByteArray := method_34_code
def yL_decidingTerm : MethodName := ⟨RL, "decidingTerm", "(LTermReckoner;[J)I"⟩
abbrev cL_termByRelease : ByteArray := method_35_code
def yL_termByRelease : MethodName := ⟨RL, "termByRelease", "(LTermReckoner;I[J)I"⟩
abbrev cL_recallEnd : ByteArray := method_36_code
def yL_recallEnd : MethodName := ⟨RL, "recallEnd", "(LTermReckoner;[J)I"⟩
abbrev cL_awardDays : ByteArray := method_37_code
def yL_awardDays : MethodName := ⟨RL, "awardDays", "(LTermReckoner;I[J)I"⟩
abbrev cL_concerns : ByteArray := method_38_code
def yL_concerns : MethodName := ⟨RL, "concerns", "(LTermReckoner;II[J)I"⟩
abbrev cL_lastReleaseWithAward : ByteArray := method_39_code
def yL_lastReleaseWithAward : MethodName := ⟨RL, "lastReleaseWithAward", "(LTermReckoner;I[J)I"⟩
abbrev cL_lastReleaseWithout : ByteArray := method_40_code
def yL_lastReleaseWithout : MethodName := ⟨RL, "lastReleaseWithout", "(LTermReckoner;I[J)I"⟩
abbrev cL_statusOn : ByteArray := method_41_code
def yL_statusOn : MethodName := ⟨RL, "statusOn", "(LTermReckoner;I[J)I"⟩
abbrev cL_outputAt : ByteArray := method_42_code
def yL_outputAt : MethodName := ⟨RL, "outputAt", "(LTermReckoner;I[J)I"⟩
abbrev cL_law : ByteArray := code
def yL_law : MethodName := ⟨RL, "law", "([I)Z"⟩
abbrev vwCl : List vw_C := [(RJ0, TJ0, 4), (RJ4, TJ4, 4), (RJx00060, TJx00060, 6), (RJx7c733, TJx7c733, 6), (RX0, TX0, 4), (RX2, TX2, 1), (RX3, TX3, 4), (RX4, TX4, 6), (RX5, TX5, 16), (RX6, TX6, 11), (RX7, TX7, 42)]
end
section
theorem dX0_init_0 : decode cX0_init 0 = .ok (.aload_n 0, 1) := by decide +kernel
theorem dX0_init_1 : decode cX0_init 1 = .ok (.invokespecial 3, 3) := by decide +kernel
theorem dX0_init_4 : decode cX0_init 4 = .ok (.aload_n 0, 1) := by decide +kernel
theorem dX0_init_5 : decode cX0_init 5 = .ok (.bipush 8, 2) := by decide +kernel
theorem dX0_init_7 : decode cX0_init 7 = .ok (.newarray .int, 2) := by decide +kernel
theorem dX0_init_9 : decode cX0_init 9 = .ok (.putfield 9, 3) := by decide +kernel
theorem dX0_init_12 : decode cX0_init 12 = .ok (.aload_n 0, 1) := by decide +kernel
theorem dX0_init_13 : decode cX0_init 13 = .ok (.bipush 8, 2) := by decide +kernel
theorem dX0_init_15 : decode cX0_init 15 = .ok (.newarray .int, 2) := by decide +kernel
theorem dX0_init_17 : decode cX0_init 17 = .ok (.putfield 15, 3) := by decide +kernel
theorem dX0_init_20 : decode cX0_init 20 = .ok (.aload_n 0, 1) := by decide +kernel
theorem dX0_init_21 : decode cX0_init 21 = .ok (.bipush 8, 2) := by decide +kernel
theorem dX0_init_23 : decode cX0_init 23 = .ok (.newarray .int, 2) := by decide +kernel
theorem dX0_init_25 : decode cX0_init 25 = .ok (.putfield 18, 3) := by decide +kernel
theorem dX0_init_28 : decode cX0_init 28 = .ok (.return_, 1) := by decide +kernel
theorem dX0_add_0 : decode cX0_add 0 = .ok (.aload_n 0, 1) := by decide +kernel
theorem dX0_add_1 : decode cX0_add 1 = .ok (.getfield 9, 3) := by decide +kernel
theorem dX0_add_4 : decode cX0_add 4 = .ok (.aload_n 0, 1) := by decide +kernel
theorem dX0_add_5 : decode cX0_add 5 = .ok (.getfield 21, 3) := by decide +kernel
theorem dX0_add_8 : decode cX0_add 8 = .ok (.iload_n 1, 1) := by decide +kernel
theorem dX0_add_9 : decode cX0_add 9 = .ok (.iastore, 1) := by decide +kernel
theorem dX0_add_10 : decode cX0_add 10 = .ok (.aload_n 0, 1) := by decide +kernel
theorem dX0_add_11 : decode cX0_add 11 = .ok (.getfield 15, 3) := by decide +kernel
theorem dX0_add_14 : decode cX0_add 14 = .ok (.aload_n 0, 1) := by decide +kernel
theorem dX0_add_15 : decode cX0_add 15 = .ok (.getfield 21, 3) := by decide +kernel
theorem dX0_add_18 : decode cX0_add 18 = .ok (.iload_n 2, 1) := by decide +kernel
theorem dX0_add_19 : decode cX0_add 19 = .ok (.iastore, 1) := by decide +kernel
theorem dX0_add_20 : decode cX0_add 20 = .ok (.aload_n 0, 1) := by decide +kernel
theorem dX0_add_21 : decode cX0_add 21 = .ok (.getfield 18, 3) := by decide +kernel
theorem dX0_add_24 : decode cX0_add 24 = .ok (.aload_n 0, 1) := by decide +kernel
theorem dX0_add_25 : decode cX0_add 25 = .ok (.getfield 21, 3) := by decide +kernel
theorem dX0_add_28 : decode cX0_add 28 = .ok (.iload_n 3, 1) := by decide +kernel
theorem dX0_add_29 : decode cX0_add 29 = .ok (.iastore, 1) := by decide +kernel
theorem dX0_add_30 : decode cX0_add 30 = .ok (.aload_n 0, 1) := by decide +kernel
theorem dX0_add_31 : decode cX0_add 31 = .ok (.dup, 1) := by decide +kernel
theorem dX0_add_32 : decode cX0_add 32 = .ok (.getfield 21, 3) := by decide +kernel
theorem dX0_add_35 : decode cX0_add 35 = .ok (.iconst 1, 1) := by decide +kernel
theorem dX0_add_36 : decode cX0_add 36 = .ok (.iadd, 1) := by decide +kernel
theorem dX0_add_37 : decode cX0_add 37 = .ok (.putfield 21, 3) := by decide +kernel
theorem dX0_add_40 : decode cX0_add 40 = .ok (.aload_n 0, 1) := by decide +kernel
theorem dX0_add_41 : decode cX0_add 41 = .ok (.getfield 21, 3) := by decide +kernel
theorem dX0_add_44 : decode cX0_add 44 = .ok (.iconst 1, 1) := by decide +kernel
theorem dX0_add_45 : decode cX0_add 45 = .ok (.isub, 1) := by decide +kernel
theorem dX0_add_46 : decode cX0_add 46 = .ok (.ireturn, 1) := by decide +kernel
theorem dX0_daysForChain_0 : decode cX0_daysForChain 0 = .ok (.iconst 0, 1) := by decide +kernel
theorem dX0_daysForChain_1 : decode cX0_daysForChain 1 = .ok (.istore_n 2, 1) := by decide +kernel
theorem dX0_daysForChain_2 : decode cX0_daysForChain 2 = .ok (.iconst 0, 1) := by decide +kernel
theorem dX0_daysForChain_3 : decode cX0_daysForChain 3 = .ok (.istore_n 3, 1) := by decide +kernel
theorem dX0_daysForChain_4 : decode cX0_daysForChain 4 = .ok (.iload_n 3, 1) := by decide +kernel
theorem dX0_daysForChain_5 : decode cX0_daysForChain 5 = .ok (.aload_n 0, 1) := by decide +kernel
theorem dX0_daysForChain_6 : decode cX0_daysForChain 6 = .ok (.getfield 21, 3) := by decide +kernel
theorem dX0_daysForChain_9 : decode cX0_daysForChain 9 = .ok (.if_icmp .ge 29, 3) := by decide +kernel
theorem dX0_daysForChain_12 : decode cX0_daysForChain 12 = .ok (.aload_n 0, 1) := by decide +kernel
theorem dX0_daysForChain_13 : decode cX0_daysForChain 13 = .ok (.getfield 15, 3) := by decide +kernel
theorem dX0_daysForChain_16 : decode cX0_daysForChain 16 = .ok (.iload_n 3, 1) := by decide +kernel
theorem dX0_daysForChain_17 : decode cX0_daysForChain 17 = .ok (.iaload, 1) := by decide +kernel
theorem dX0_daysForChain_18 : decode cX0_daysForChain 18 = .ok (.iload_n 1, 1) := by decide +kernel
theorem dX0_daysForChain_19 : decode cX0_daysForChain 19 = .ok (.iand, 1) := by decide +kernel
theorem dX0_daysForChain_20 : decode cX0_daysForChain 20 = .ok (.ifCond .eq 12, 3) := by decide +kernel
theorem dX0_daysForChain_23 : decode cX0_daysForChain 23 = .ok (.iload_n 2, 1) := by decide +kernel
theorem dX0_daysForChain_24 : decode cX0_daysForChain 24 = .ok (.aload_n 0, 1) := by decide +kernel
theorem dX0_daysForChain_25 : decode cX0_daysForChain 25 = .ok (.getfield 9, 3) := by decide +kernel
theorem dX0_daysForChain_28 : decode cX0_daysForChain 28 = .ok (.iload_n 3, 1) := by decide +kernel
theorem dX0_daysForChain_29 : decode cX0_daysForChain 29 = .ok (.iaload, 1) := by decide +kernel
theorem dX0_daysForChain_30 : decode cX0_daysForChain 30 = .ok (.iadd, 1) := by decide +kernel
theorem dX0_daysForChain_31 : decode cX0_daysForChain 31 = .ok (.istore_n 2, 1) := by decide +kernel
theorem dX0_daysForChain_32 : decode cX0_daysForChain 32 = .ok (.iinc 3 1, 3) := by decide +kernel
theorem dX0_daysForChain_35 : decode cX0_daysForChain 35 = .ok (.goto (-31), 3) := by decide +kernel
theorem dX0_daysForChain_38 : decode cX0_daysForChain 38 = .ok (.iload_n 2, 1) := by decide +kernel
theorem dX0_daysForChain_39 : decode cX0_daysForChain 39 = .ok (.ireturn, 1) := by decide +kernel
theorem dX0_daysForRecall_0 : decode cX0_daysForRecall 0 = .ok (.iconst 0, 1) := by decide +kernel
theorem dX0_daysForRecall_1 : decode cX0_daysForRecall 1 = .ok (.istore_n 2, 1) := by decide +kernel
theorem dX0_daysForRecall_2 : decode cX0_daysForRecall 2 = .ok (.iconst 0, 1) := by decide +kernel
theorem dX0_daysForRecall_3 : decode cX0_daysForRecall 3 = .ok (.istore_n 3, 1) := by decide +kernel
theorem dX0_daysForRecall_4 : decode cX0_daysForRecall 4 = .ok (.iload_n 3, 1) := by decide +kernel
theorem dX0_daysForRecall_5 : decode cX0_daysForRecall 5 = .ok (.aload_n 0, 1) := by decide +kernel
theorem dX0_daysForRecall_6 : decode cX0_daysForRecall 6 = .ok (.getfield 21, 3) := by decide +kernel
theorem dX0_daysForRecall_9 : decode cX0_daysForRecall 9 = .ok (.if_icmp .ge 28, 3) := by decide +kernel
theorem dX0_daysForRecall_12 : decode cX0_daysForRecall 12 = .ok (.aload_n 0, 1) := by decide +kernel
theorem dX0_daysForRecall_13 : decode cX0_daysForRecall 13 = .ok (.getfield 18, 3) := by decide +kernel
theorem dX0_daysForRecall_16 : decode cX0_daysForRecall 16 = .ok (.iload_n 3, 1) := by decide +kernel
theorem dX0_daysForRecall_17 : decode cX0_daysForRecall 17 = .ok (.iaload, 1) := by decide +kernel
theorem dX0_daysForRecall_18 : decode cX0_daysForRecall 18 = .ok (.iload_n 1, 1) := by decide +kernel
theorem dX0_daysForRecall_19 : decode cX0_daysForRecall 19 = .ok (.if_icmp .ne 12, 3) := by decide +kernel
theorem dX0_daysForRecall_22 : decode cX0_daysForRecall 22 = .ok (.iload_n 2, 1) := by decide +kernel
theorem dX0_daysForRecall_23 : decode cX0_daysForRecall 23 = .ok (.aload_n 0, 1) := by decide +kernel
theorem dX0_daysForRecall_24 : decode cX0_daysForRecall 24 = .ok (.getfield 9, 3) := by decide +kernel
theorem dX0_daysForRecall_27 : decode cX0_daysForRecall 27 = .ok (.iload_n 3, 1) := by decide +kernel
theorem dX0_daysForRecall_28 : decode cX0_daysForRecall 28 = .ok (.iaload, 1) := by decide +kernel
theorem dX0_daysForRecall_29 : decode cX0_daysForRecall 29 = .ok (.iadd, 1) := by decide +kernel
theorem dX0_daysForRecall_30 : decode cX0_daysForRecall 30 = .ok (.istore_n 2, 1) := by decide +kernel
theorem dX0_daysForRecall_31 : decode cX0_daysForRecall 31 = .ok (.iinc 3 1, 3) := by decide +kernel
theorem dX0_daysForRecall_34 : decode cX0_daysForRecall 34 = .ok (.goto (-30), 3) := by decide +kernel
theorem dX0_daysForRecall_37 : decode cX0_daysForRecall 37 = .ok (.iload_n 2, 1) := by decide +kernel
theorem dX0_daysForRecall_38 : decode cX0_daysForRecall 38 = .ok (.ireturn, 1) := by decide +kernel
theorem dX1_exists_0 : decode cX1_exists 0 = .ok (.iload_n 0, 1) := by decide +kernel
theorem dX1_exists_1 : decode cX1_exists 1 = .ok (.sipush 2000, 3) := by decide +kernel
theorem dX1_exists_4 : decode cX1_exists 4 = .ok (.if_icmp .lt 39, 3) := by decide +kernel
theorem dX1_exists_7 : decode cX1_exists 7 = .ok (.iload_n 0, 1) := by decide +kernel
theorem dX1_exists_8 : decode cX1_exists 8 = .ok (.sipush 2099, 3) := by decide +kernel
theorem dX1_exists_11 : decode cX1_exists 11 = .ok (.if_icmp .gt 32, 3) := by decide +kernel
theorem dX1_exists_14 : decode cX1_exists 14 = .ok (.iload_n 1, 1) := by decide +kernel
theorem dX1_exists_15 : decode cX1_exists 15 = .ok (.iconst 1, 1) := by decide +kernel
theorem dX1_exists_16 : decode cX1_exists 16 = .ok (.if_icmp .lt 27, 3) := by decide +kernel
theorem dX1_exists_19 : decode cX1_exists 19 = .ok (.iload_n 1, 1) := by decide +kernel
theorem dX1_exists_20 : decode cX1_exists 20 = .ok (.bipush 12, 2) := by decide +kernel
theorem dX1_exists_22 : decode cX1_exists 22 = .ok (.if_icmp .gt 21, 3) := by decide +kernel
theorem dX1_exists_25 : decode cX1_exists 25 = .ok (.iload_n 2, 1) := by decide +kernel
theorem dX1_exists_26 : decode cX1_exists 26 = .ok (.iconst 1, 1) := by decide +kernel
theorem dX1_exists_27 : decode cX1_exists 27 = .ok (.if_icmp .lt 16, 3) := by decide +kernel
theorem dX1_exists_30 : decode cX1_exists 30 = .ok (.iload_n 2, 1) := by decide +kernel
theorem dX1_exists_31 : decode cX1_exists 31 = .ok (.iload_n 0, 1) := by decide +kernel
theorem dX1_exists_32 : decode cX1_exists 32 = .ok (.iload_n 1, 1) := by decide +kernel
theorem dX1_exists_33 : decode cX1_exists 33 = .ok (.invokestatic 9, 3) := by decide +kernel
theorem dX1_exists_36 : decode cX1_exists 36 = .ok (.if_icmp .gt 7, 3) := by decide +kernel
theorem dX1_exists_39 : decode cX1_exists 39 = .ok (.iconst 1, 1) := by decide +kernel
theorem dX1_exists_40 : decode cX1_exists 40 = .ok (.goto 4, 3) := by decide +kernel
theorem dX1_exists_43 : decode cX1_exists 43 = .ok (.iconst 0, 1) := by decide +kernel
theorem dX1_exists_44 : decode cX1_exists 44 = .ok (.ireturn, 1) := by decide +kernel
theorem dX1_daysIn_0 : decode cX1_daysIn 0 = .ok (.iload_n 1, 1) := by decide +kernel
theorem dX1_daysIn_1 : decode cX1_daysIn 1 = .ok (.iconst 2, 1) := by decide +kernel
theorem dX1_daysIn_2 : decode cX1_daysIn 2 = .ok (.if_icmp .ne 17, 3) := by decide +kernel
theorem dX1_daysIn_5 : decode cX1_daysIn 5 = .ok (.iload_n 0, 1) := by decide +kernel
theorem dX1_daysIn_6 : decode cX1_daysIn 6 = .ok (.iconst 4, 1) := by decide +kernel
theorem dX1_daysIn_7 : decode cX1_daysIn 7 = .ok (.irem, 1) := by decide +kernel
theorem dX1_daysIn_8 : decode cX1_daysIn 8 = .ok (.ifCond .ne 8, 3) := by decide +kernel
theorem dX1_daysIn_11 : decode cX1_daysIn 11 = .ok (.bipush 29, 2) := by decide +kernel
theorem dX1_daysIn_13 : decode cX1_daysIn 13 = .ok (.goto 5, 3) := by decide +kernel
theorem dX1_daysIn_16 : decode cX1_daysIn 16 = .ok (.bipush 28, 2) := by decide +kernel
theorem dX1_daysIn_18 : decode cX1_daysIn 18 = .ok (.ireturn, 1) := by decide +kernel
theorem dX1_daysIn_19 : decode cX1_daysIn 19 = .ok (.iload_n 1, 1) := by decide +kernel
theorem dX1_daysIn_20 : decode cX1_daysIn 20 = .ok (.iconst 4, 1) := by decide +kernel
theorem dX1_daysIn_21 : decode cX1_daysIn 21 = .ok (.if_icmp .eq 21, 3) := by decide +kernel
theorem dX1_daysIn_24 : decode cX1_daysIn 24 = .ok (.iload_n 1, 1) := by decide +kernel
theorem dX1_daysIn_25 : decode cX1_daysIn 25 = .ok (.bipush 6, 2) := by decide +kernel
theorem dX1_daysIn_27 : decode cX1_daysIn 27 = .ok (.if_icmp .eq 15, 3) := by decide +kernel
theorem dX1_daysIn_30 : decode cX1_daysIn 30 = .ok (.iload_n 1, 1) := by decide +kernel
theorem dX1_daysIn_31 : decode cX1_daysIn 31 = .ok (.bipush 9, 2) := by decide +kernel
theorem dX1_daysIn_33 : decode cX1_daysIn 33 = .ok (.if_icmp .eq 9, 3) := by decide +kernel
theorem dX1_daysIn_36 : decode cX1_daysIn 36 = .ok (.iload_n 1, 1) := by decide +kernel
theorem dX1_daysIn_37 : decode cX1_daysIn 37 = .ok (.bipush 11, 2) := by decide +kernel
theorem dX1_daysIn_39 : decode cX1_daysIn 39 = .ok (.if_icmp .ne 8, 3) := by decide +kernel
theorem dX1_daysIn_42 : decode cX1_daysIn 42 = .ok (.bipush 30, 2) := by decide +kernel
theorem dX1_daysIn_44 : decode cX1_daysIn 44 = .ok (.goto 5, 3) := by decide +kernel
theorem dX1_daysIn_47 : decode cX1_daysIn 47 = .ok (.bipush 31, 2) := by decide +kernel
theorem dX1_daysIn_49 : decode cX1_daysIn 49 = .ok (.ireturn, 1) := by decide +kernel
theorem dX1_numberOf_0 : decode cX1_numberOf 0 = .ok (.iload_n 0, 1) := by decide +kernel
theorem dX1_numberOf_1 : decode cX1_numberOf 1 = .ok (.invokestatic 13, 3) := by decide +kernel
theorem dX1_numberOf_4 : decode cX1_numberOf 4 = .ok (.iload_n 0, 1) := by decide +kernel
theorem dX1_numberOf_5 : decode cX1_numberOf 5 = .ok (.iload_n 1, 1) := by decide +kernel
theorem dX1_numberOf_6 : decode cX1_numberOf 6 = .ok (.invokestatic 17, 3) := by decide +kernel
theorem dX1_numberOf_9 : decode cX1_numberOf 9 = .ok (.iadd, 1) := by decide +kernel
theorem dX1_numberOf_10 : decode cX1_numberOf 10 = .ok (.iload_n 2, 1) := by decide +kernel
theorem dX1_numberOf_11 : decode cX1_numberOf 11 = .ok (.iadd, 1) := by decide +kernel
theorem dX1_numberOf_12 : decode cX1_numberOf 12 = .ok (.iconst 1, 1) := by decide +kernel
theorem dX1_numberOf_13 : decode cX1_numberOf 13 = .ok (.isub, 1) := by decide +kernel
theorem dX1_numberOf_14 : decode cX1_numberOf 14 = .ok (.ireturn, 1) := by decide +kernel
theorem dX1_yearStart_0 : decode cX1_yearStart 0 = .ok (.iload_n 0, 1) := by decide +kernel
theorem dX1_yearStart_1 : decode cX1_yearStart 1 = .ok (.sipush 2000, 3) := by decide +kernel
theorem dX1_yearStart_4 : decode cX1_yearStart 4 = .ok (.isub, 1) := by decide +kernel
theorem dX1_yearStart_5 : decode cX1_yearStart 5 = .ok (.istore_n 1, 1) := by decide +kernel
theorem dX1_yearStart_6 : decode cX1_yearStart 6 = .ok (.sipush 365, 3) := by decide +kernel
theorem dX1_yearStart_9 : decode cX1_yearStart 9 = .ok (.iload_n 1, 1) := by decide +kernel
theorem dX1_yearStart_10 : decode cX1_yearStart 10 = .ok (.imul, 1) := by decide +kernel
theorem dX1_yearStart_11 : decode cX1_yearStart 11 = .ok (.iload_n 1, 1) := by decide +kernel
theorem dX1_yearStart_12 : decode cX1_yearStart 12 = .ok (.iconst 3, 1) := by decide +kernel
theorem dX1_yearStart_13 : decode cX1_yearStart 13 = .ok (.iadd, 1) := by decide +kernel
theorem dX1_yearStart_14 : decode cX1_yearStart 14 = .ok (.iconst 4, 1) := by decide +kernel
theorem dX1_yearStart_15 : decode cX1_yearStart 15 = .ok (.idiv, 1) := by decide +kernel
theorem dX1_yearStart_16 : decode cX1_yearStart 16 = .ok (.iadd, 1) := by decide +kernel
theorem dX1_yearStart_17 : decode cX1_yearStart 17 = .ok (.ireturn, 1) := by decide +kernel
theorem dX1_numberByAdding_0 : decode cX1_numberByAdding 0 = .ok (.iload_n 2, 1) := by decide +kernel
theorem dX1_numberByAdding_1 : decode cX1_numberByAdding 1 = .ok (.iconst 1, 1) := by decide +kernel
theorem dX1_numberByAdding_2 : decode cX1_numberByAdding 2 = .ok (.isub, 1) := by decide +kernel
theorem dX1_numberByAdding_3 : decode cX1_numberByAdding 3 = .ok (.istore_n 3, 1) := by decide +kernel
theorem dX1_numberByAdding_4 : decode cX1_numberByAdding 4 = .ok (.sipush 2000, 3) := by decide +kernel
theorem dX1_numberByAdding_7 : decode cX1_numberByAdding 7 = .ok (.istore 4, 2) := by decide +kernel
theorem dX1_numberByAdding_9 : decode cX1_numberByAdding 9 = .ok (.iload 4, 2) := by decide +kernel
theorem dX1_numberByAdding_11 : decode cX1_numberByAdding 11 = .ok (.iload_n 0, 1) := by decide +kernel
theorem dX1_numberByAdding_12 : decode cX1_numberByAdding 12 = .ok (.if_icmp .gt 51, 3) := by decide +kernel
theorem dX1_numberByAdding_15 : decode cX1_numberByAdding 15 = .ok (.iload 4, 2) := by decide +kernel
theorem dX1_numberByAdding_17 : decode cX1_numberByAdding 17 = .ok (.iload_n 0, 1) := by decide +kernel
theorem dX1_numberByAdding_18 : decode cX1_numberByAdding 18 = .ok (.if_icmp .ge 8, 3) := by decide +kernel
theorem dX1_numberByAdding_21 : decode cX1_numberByAdding 21 = .ok (.bipush 12, 2) := by decide +kernel
theorem dX1_numberByAdding_23 : decode cX1_numberByAdding 23 = .ok (.goto 6, 3) := by decide +kernel
theorem dX1_numberByAdding_26 : decode cX1_numberByAdding 26 = .ok (.iload_n 1, 1) := by decide +kernel
theorem dX1_numberByAdding_27 : decode cX1_numberByAdding 27 = .ok (.iconst 1, 1) := by decide +kernel
theorem dX1_numberByAdding_28 : decode cX1_numberByAdding 28 = .ok (.isub, 1) := by decide +kernel
theorem dX1_numberByAdding_29 : decode cX1_numberByAdding 29 = .ok (.istore 5, 2) := by decide +kernel
theorem dX1_numberByAdding_31 : decode cX1_numberByAdding 31 = .ok (.iconst 1, 1) := by decide +kernel
theorem dX1_numberByAdding_32 : decode cX1_numberByAdding 32 = .ok (.istore 6, 2) := by decide +kernel
theorem dX1_numberByAdding_34 : decode cX1_numberByAdding 34 = .ok (.iload 6, 2) := by decide +kernel
theorem dX1_numberByAdding_36 : decode cX1_numberByAdding 36 = .ok (.iload 5, 2) := by decide +kernel
theorem dX1_numberByAdding_38 : decode cX1_numberByAdding 38 = .ok (.if_icmp .gt 19, 3) := by decide +kernel
theorem dX1_numberByAdding_41 : decode cX1_numberByAdding 41 = .ok (.iload_n 3, 1) := by decide +kernel
theorem dX1_numberByAdding_42 : decode cX1_numberByAdding 42 = .ok (.iload 4, 2) := by decide +kernel
theorem dX1_numberByAdding_44 : decode cX1_numberByAdding 44 = .ok (.iload 6, 2) := by decide +kernel
theorem dX1_numberByAdding_46 : decode cX1_numberByAdding 46 = .ok (.invokestatic 9, 3) := by decide +kernel
theorem dX1_numberByAdding_49 : decode cX1_numberByAdding 49 = .ok (.iadd, 1) := by decide +kernel
theorem dX1_numberByAdding_50 : decode cX1_numberByAdding 50 = .ok (.istore_n 3, 1) := by decide +kernel
theorem dX1_numberByAdding_51 : decode cX1_numberByAdding 51 = .ok (.iinc 6 1, 3) := by decide +kernel
theorem dX1_numberByAdding_54 : decode cX1_numberByAdding 54 = .ok (.goto (-20), 3) := by decide +kernel
theorem dX1_numberByAdding_57 : decode cX1_numberByAdding 57 = .ok (.iinc 4 1, 3) := by decide +kernel
theorem dX1_numberByAdding_60 : decode cX1_numberByAdding 60 = .ok (.goto (-51), 3) := by decide +kernel
theorem dX1_numberByAdding_63 : decode cX1_numberByAdding 63 = .ok (.iload_n 3, 1) := by decide +kernel
theorem dX1_numberByAdding_64 : decode cX1_numberByAdding 64 = .ok (.ireturn, 1) := by decide +kernel
theorem dX1_daysBefore_0 : decode cX1_daysBefore 0 = .ok (.sipush 367, 3) := by decide +kernel
theorem dX1_daysBefore_3 : decode cX1_daysBefore 3 = .ok (.iload_n 1, 1) := by decide +kernel
theorem dX1_daysBefore_4 : decode cX1_daysBefore 4 = .ok (.imul, 1) := by decide +kernel
theorem dX1_daysBefore_5 : decode cX1_daysBefore 5 = .ok (.sipush 362, 3) := by decide +kernel
theorem dX1_daysBefore_8 : decode cX1_daysBefore 8 = .ok (.isub, 1) := by decide +kernel
theorem dX1_daysBefore_9 : decode cX1_daysBefore 9 = .ok (.bipush 12, 2) := by decide +kernel
theorem dX1_daysBefore_11 : decode cX1_daysBefore 11 = .ok (.idiv, 1) := by decide +kernel
theorem dX1_daysBefore_12 : decode cX1_daysBefore 12 = .ok (.istore_n 2, 1) := by decide +kernel
theorem dX1_daysBefore_13 : decode cX1_daysBefore 13 = .ok (.iload_n 1, 1) := by decide +kernel
theorem dX1_daysBefore_14 : decode cX1_daysBefore 14 = .ok (.iconst 2, 1) := by decide +kernel
theorem dX1_daysBefore_15 : decode cX1_daysBefore 15 = .ok (.if_icmp .gt 5, 3) := by decide +kernel
theorem dX1_daysBefore_18 : decode cX1_daysBefore 18 = .ok (.iload_n 2, 1) := by decide +kernel
theorem dX1_daysBefore_19 : decode cX1_daysBefore 19 = .ok (.ireturn, 1) := by decide +kernel
theorem dX1_daysBefore_20 : decode cX1_daysBefore 20 = .ok (.iload_n 2, 1) := by decide +kernel
theorem dX1_daysBefore_21 : decode cX1_daysBefore 21 = .ok (.iload_n 0, 1) := by decide +kernel
theorem dX1_daysBefore_22 : decode cX1_daysBefore 22 = .ok (.iconst 4, 1) := by decide +kernel
theorem dX1_daysBefore_23 : decode cX1_daysBefore 23 = .ok (.irem, 1) := by decide +kernel
theorem dX1_daysBefore_24 : decode cX1_daysBefore 24 = .ok (.ifCond .ne 7, 3) := by decide +kernel
theorem dX1_daysBefore_27 : decode cX1_daysBefore 27 = .ok (.iconst 1, 1) := by decide +kernel
theorem dX1_daysBefore_28 : decode cX1_daysBefore 28 = .ok (.goto 4, 3) := by decide +kernel
theorem dX1_daysBefore_31 : decode cX1_daysBefore 31 = .ok (.iconst 2, 1) := by decide +kernel
theorem dX1_daysBefore_32 : decode cX1_daysBefore 32 = .ok (.isub, 1) := by decide +kernel
theorem dX1_daysBefore_33 : decode cX1_daysBefore 33 = .ok (.ireturn, 1) := by decide +kernel
theorem dX1_yearAt_0 : decode cX1_yearAt 0 = .ok (.iload_n 0, 1) := by decide +kernel
theorem dX1_yearAt_1 : decode cX1_yearAt 1 = .ok (.sipush 1461, 3) := by decide +kernel
theorem dX1_yearAt_4 : decode cX1_yearAt 4 = .ok (.irem, 1) := by decide +kernel
theorem dX1_yearAt_5 : decode cX1_yearAt 5 = .ok (.istore_n 1, 1) := by decide +kernel
theorem dX1_yearAt_6 : decode cX1_yearAt 6 = .ok (.iload_n 1, 1) := by decide +kernel
theorem dX1_yearAt_7 : decode cX1_yearAt 7 = .ok (.sipush 366, 3) := by decide +kernel
theorem dX1_yearAt_10 : decode cX1_yearAt 10 = .ok (.if_icmp .ge 7, 3) := by decide +kernel
theorem dX1_yearAt_13 : decode cX1_yearAt 13 = .ok (.iconst 0, 1) := by decide +kernel
theorem dX1_yearAt_14 : decode cX1_yearAt 14 = .ok (.goto 14, 3) := by decide +kernel
theorem dX1_yearAt_17 : decode cX1_yearAt 17 = .ok (.iconst 1, 1) := by decide +kernel
theorem dX1_yearAt_18 : decode cX1_yearAt 18 = .ok (.iload_n 1, 1) := by decide +kernel
theorem dX1_yearAt_19 : decode cX1_yearAt 19 = .ok (.sipush 366, 3) := by decide +kernel
theorem dX1_yearAt_22 : decode cX1_yearAt 22 = .ok (.isub, 1) := by decide +kernel
theorem dX1_yearAt_23 : decode cX1_yearAt 23 = .ok (.sipush 365, 3) := by decide +kernel
theorem dX1_yearAt_26 : decode cX1_yearAt 26 = .ok (.idiv, 1) := by decide +kernel
theorem dX1_yearAt_27 : decode cX1_yearAt 27 = .ok (.iadd, 1) := by decide +kernel
theorem dX1_yearAt_28 : decode cX1_yearAt 28 = .ok (.istore_n 2, 1) := by decide +kernel
theorem dX1_yearAt_29 : decode cX1_yearAt 29 = .ok (.sipush 2000, 3) := by decide +kernel
theorem dX1_yearAt_32 : decode cX1_yearAt 32 = .ok (.iconst 4, 1) := by decide +kernel
theorem dX1_yearAt_33 : decode cX1_yearAt 33 = .ok (.iload_n 0, 1) := by decide +kernel
theorem dX1_yearAt_34 : decode cX1_yearAt 34 = .ok (.sipush 1461, 3) := by decide +kernel
theorem dX1_yearAt_37 : decode cX1_yearAt 37 = .ok (.idiv, 1) := by decide +kernel
theorem dX1_yearAt_38 : decode cX1_yearAt 38 = .ok (.imul, 1) := by decide +kernel
theorem dX1_yearAt_39 : decode cX1_yearAt 39 = .ok (.iadd, 1) := by decide +kernel
theorem dX1_yearAt_40 : decode cX1_yearAt 40 = .ok (.iload_n 2, 1) := by decide +kernel
theorem dX1_yearAt_41 : decode cX1_yearAt 41 = .ok (.iadd, 1) := by decide +kernel
theorem dX1_yearAt_42 : decode cX1_yearAt 42 = .ok (.ireturn, 1) := by decide +kernel
theorem dX1_monthAt_0 : decode cX1_monthAt 0 = .ok (.iload_n 0, 1) := by decide +kernel
theorem dX1_monthAt_1 : decode cX1_monthAt 1 = .ok (.invokestatic 20, 3) := by decide +kernel
theorem dX1_monthAt_4 : decode cX1_monthAt 4 = .ok (.istore_n 1, 1) := by decide +kernel
theorem dX1_monthAt_5 : decode cX1_monthAt 5 = .ok (.iload_n 0, 1) := by decide +kernel
theorem dX1_monthAt_6 : decode cX1_monthAt 6 = .ok (.iload_n 1, 1) := by decide +kernel
theorem dX1_monthAt_7 : decode cX1_monthAt 7 = .ok (.invokestatic 13, 3) := by decide +kernel
theorem dX1_monthAt_10 : decode cX1_monthAt 10 = .ok (.isub, 1) := by decide +kernel
theorem dX1_monthAt_11 : decode cX1_monthAt 11 = .ok (.istore_n 2, 1) := by decide +kernel
theorem dX1_monthAt_12 : decode cX1_monthAt 12 = .ok (.iconst 1, 1) := by decide +kernel
theorem dX1_monthAt_13 : decode cX1_monthAt 13 = .ok (.istore_n 3, 1) := by decide +kernel
theorem dX1_monthAt_14 : decode cX1_monthAt 14 = .ok (.iload_n 3, 1) := by decide +kernel
theorem dX1_monthAt_15 : decode cX1_monthAt 15 = .ok (.bipush 12, 2) := by decide +kernel
theorem dX1_monthAt_17 : decode cX1_monthAt 17 = .ok (.if_icmp .ge 20, 3) := by decide +kernel
theorem dX1_monthAt_20 : decode cX1_monthAt 20 = .ok (.iload_n 1, 1) := by decide +kernel
theorem dX1_monthAt_21 : decode cX1_monthAt 21 = .ok (.iload_n 3, 1) := by decide +kernel
theorem dX1_monthAt_22 : decode cX1_monthAt 22 = .ok (.iconst 1, 1) := by decide +kernel
theorem dX1_monthAt_23 : decode cX1_monthAt 23 = .ok (.iadd, 1) := by decide +kernel
theorem dX1_monthAt_24 : decode cX1_monthAt 24 = .ok (.invokestatic 17, 3) := by decide +kernel
theorem dX1_monthAt_27 : decode cX1_monthAt 27 = .ok (.iload_n 2, 1) := by decide +kernel
theorem dX1_monthAt_28 : decode cX1_monthAt 28 = .ok (.if_icmp .gt 9, 3) := by decide +kernel
theorem dX1_monthAt_31 : decode cX1_monthAt 31 = .ok (.iinc 3 1, 3) := by decide +kernel
theorem dX1_monthAt_34 : decode cX1_monthAt 34 = .ok (.goto (-20), 3) := by decide +kernel
theorem dX1_monthAt_37 : decode cX1_monthAt 37 = .ok (.iload_n 3, 1) := by decide +kernel
theorem dX1_monthAt_38 : decode cX1_monthAt 38 = .ok (.ireturn, 1) := by decide +kernel
theorem dX1_dayInMonthAt_0 : decode cX1_dayInMonthAt 0 = .ok (.iload_n 0, 1) := by decide +kernel
theorem dX1_dayInMonthAt_1 : decode cX1_dayInMonthAt 1 = .ok (.invokestatic 20, 3) := by decide +kernel
theorem dX1_dayInMonthAt_4 : decode cX1_dayInMonthAt 4 = .ok (.istore_n 1, 1) := by decide +kernel
theorem dX1_dayInMonthAt_5 : decode cX1_dayInMonthAt 5 = .ok (.iload_n 0, 1) := by decide +kernel
theorem dX1_dayInMonthAt_6 : decode cX1_dayInMonthAt 6 = .ok (.iload_n 1, 1) := by decide +kernel
theorem dX1_dayInMonthAt_7 : decode cX1_dayInMonthAt 7 = .ok (.invokestatic 13, 3) := by decide +kernel
theorem dX1_dayInMonthAt_10 : decode cX1_dayInMonthAt 10 = .ok (.isub, 1) := by decide +kernel
theorem dX1_dayInMonthAt_11 : decode cX1_dayInMonthAt 11 = .ok (.iload_n 1, 1) := by decide +kernel
theorem dX1_dayInMonthAt_12 : decode cX1_dayInMonthAt 12 = .ok (.iload_n 0, 1) := by decide +kernel
theorem dX1_dayInMonthAt_13 : decode cX1_dayInMonthAt 13 = .ok (.invokestatic 23, 3) := by decide +kernel
theorem dX1_dayInMonthAt_16 : decode cX1_dayInMonthAt 16 = .ok (.invokestatic 17, 3) := by decide +kernel
theorem dX1_dayInMonthAt_19 : decode cX1_dayInMonthAt 19 = .ok (.isub, 1) := by decide +kernel
theorem dX1_dayInMonthAt_20 : decode cX1_dayInMonthAt 20 = .ok (.iconst 1, 1) := by decide +kernel
theorem dX1_dayInMonthAt_21 : decode cX1_dayInMonthAt 21 = .ok (.iadd, 1) := by decide +kernel
theorem dX1_dayInMonthAt_22 : decode cX1_dayInMonthAt 22 = .ok (.ireturn, 1) := by decide +kernel
theorem dX1_later_0 : decode cX1_later 0 = .ok (.iload_n 0, 1) := by decide +kernel
theorem dX1_later_1 : decode cX1_later 1 = .ok (.invokestatic 23, 3) := by decide +kernel
theorem dX1_later_4 : decode cX1_later 4 = .ok (.iconst 1, 1) := by decide +kernel
theorem dX1_later_5 : decode cX1_later 5 = .ok (.isub, 1) := by decide +kernel
theorem dX1_later_6 : decode cX1_later 6 = .ok (.iload_n 1, 1) := by decide +kernel
theorem dX1_later_7 : decode cX1_later 7 = .ok (.iadd, 1) := by decide +kernel
theorem dX1_later_8 : decode cX1_later 8 = .ok (.istore_n 2, 1) := by decide +kernel
theorem dX1_later_9 : decode cX1_later 9 = .ok (.iload_n 0, 1) := by decide +kernel
theorem dX1_later_10 : decode cX1_later 10 = .ok (.invokestatic 20, 3) := by decide +kernel
theorem dX1_later_13 : decode cX1_later 13 = .ok (.iload_n 2, 1) := by decide +kernel
theorem dX1_later_14 : decode cX1_later 14 = .ok (.bipush 12, 2) := by decide +kernel
theorem dX1_later_16 : decode cX1_later 16 = .ok (.idiv, 1) := by decide +kernel
theorem dX1_later_17 : decode cX1_later 17 = .ok (.iadd, 1) := by decide +kernel
theorem dX1_later_18 : decode cX1_later 18 = .ok (.istore_n 3, 1) := by decide +kernel
theorem dX1_later_19 : decode cX1_later 19 = .ok (.iload_n 2, 1) := by decide +kernel
theorem dX1_later_20 : decode cX1_later 20 = .ok (.bipush 12, 2) := by decide +kernel
theorem dX1_later_22 : decode cX1_later 22 = .ok (.irem, 1) := by decide +kernel
theorem dX1_later_23 : decode cX1_later 23 = .ok (.iconst 1, 1) := by decide +kernel
theorem dX1_later_24 : decode cX1_later 24 = .ok (.iadd, 1) := by decide +kernel
theorem dX1_later_25 : decode cX1_later 25 = .ok (.istore 4, 2) := by decide +kernel
theorem dX1_later_27 : decode cX1_later 27 = .ok (.iload_n 3, 1) := by decide +kernel
theorem dX1_later_28 : decode cX1_later 28 = .ok (.iload 4, 2) := by decide +kernel
theorem dX1_later_30 : decode cX1_later 30 = .ok (.iload_n 0, 1) := by decide +kernel
theorem dX1_later_31 : decode cX1_later 31 = .ok (.invokestatic 26, 3) := by decide +kernel
theorem dX1_later_34 : decode cX1_later 34 = .ok (.iload_n 3, 1) := by decide +kernel
theorem dX1_later_35 : decode cX1_later 35 = .ok (.iload 4, 2) := by decide +kernel
theorem dX1_later_37 : decode cX1_later 37 = .ok (.invokestatic 9, 3) := by decide +kernel
theorem dX1_later_40 : decode cX1_later 40 = .ok (.invokestatic 29, 3) := by decide +kernel
theorem dX1_later_43 : decode cX1_later 43 = .ok (.invokestatic 34, 3) := by decide +kernel
theorem dX1_later_46 : decode cX1_later 46 = .ok (.ireturn, 1) := by decide +kernel
theorem dX2_init_0 : decode cX2_init 0 = .ok (.aload_n 0, 1) := by decide +kernel
theorem dX2_init_1 : decode cX2_init 1 = .ok (.invokespecial 3, 3) := by decide +kernel
theorem dX2_init_4 : decode cX2_init 4 = .ok (.aload_n 0, 1) := by decide +kernel
theorem dX2_init_5 : decode cX2_init 5 = .ok (.sipush 229, 3) := by decide +kernel
theorem dX2_init_8 : decode cX2_init 8 = .ok (.newarray .long, 2) := by decide +kernel
theorem dX2_init_10 : decode cX2_init 10 = .ok (.putfield 11, 3) := by decide +kernel
theorem dX2_init_13 : decode cX2_init 13 = .ok (.return_, 1) := by decide +kernel
theorem dX2_clear_0 : decode cX2_clear 0 = .ok (.aload_n 0, 1) := by decide +kernel
theorem dX2_clear_1 : decode cX2_clear 1 = .ok (.getfield 11, 3) := by decide +kernel
theorem dX2_clear_4 : decode cX2_clear 4 = .ok (.lconst 0, 1) := by decide +kernel
theorem dX2_clear_5 : decode cX2_clear 5 = .ok (.invokestatic 15, 3) := by decide +kernel
theorem dX2_clear_8 : decode cX2_clear 8 = .ok (.return_, 1) := by decide +kernel
theorem dX2_has_0 : decode cX2_has 0 = .ok (.iload_n 1, 1) := by decide +kernel
theorem dX2_has_1 : decode cX2_has 1 = .ok (.bipush 6, 2) := by decide +kernel
theorem dX2_has_3 : decode cX2_has 3 = .ok (.ishr, 1) := by decide +kernel
theorem dX2_has_4 : decode cX2_has 4 = .ok (.istore_n 2, 1) := by decide +kernel
theorem dX2_has_5 : decode cX2_has 5 = .ok (.iload_n 2, 1) := by decide +kernel
theorem dX2_has_6 : decode cX2_has 6 = .ok (.ifCond .lt 32, 3) := by decide +kernel
theorem dX2_has_9 : decode cX2_has 9 = .ok (.iload_n 2, 1) := by decide +kernel
theorem dX2_has_10 : decode cX2_has 10 = .ok (.sipush 229, 3) := by decide +kernel
theorem dX2_has_13 : decode cX2_has 13 = .ok (.if_icmp .ge 25, 3) := by decide +kernel
theorem dX2_has_16 : decode cX2_has 16 = .ok (.aload_n 0, 1) := by decide +kernel
theorem dX2_has_17 : decode cX2_has 17 = .ok (.getfield 11, 3) := by decide +kernel
theorem dX2_has_20 : decode cX2_has 20 = .ok (.iload_n 2, 1) := by decide +kernel
theorem dX2_has_21 : decode cX2_has 21 = .ok (.laload, 1) := by decide +kernel
theorem dX2_has_22 : decode cX2_has 22 = .ok (.iload_n 1, 1) := by decide +kernel
theorem dX2_has_23 : decode cX2_has 23 = .ok (.bipush 63, 2) := by decide +kernel
theorem dX2_has_25 : decode cX2_has 25 = .ok (.iand, 1) := by decide +kernel
theorem dX2_has_26 : decode cX2_has 26 = .ok (.lushr, 1) := by decide +kernel
theorem dX2_has_27 : decode cX2_has 27 = .ok (.lconst 1, 1) := by decide +kernel
theorem dX2_has_28 : decode cX2_has 28 = .ok (.land, 1) := by decide +kernel
theorem dX2_has_29 : decode cX2_has 29 = .ok (.lconst 0, 1) := by decide +kernel
theorem dX2_has_30 : decode cX2_has 30 = .ok (.lcmp, 1) := by decide +kernel
theorem dX2_has_31 : decode cX2_has 31 = .ok (.ifCond .eq 7, 3) := by decide +kernel
theorem dX2_has_34 : decode cX2_has 34 = .ok (.iconst 1, 1) := by decide +kernel
theorem dX2_has_35 : decode cX2_has 35 = .ok (.goto 4, 3) := by decide +kernel
theorem dX2_has_38 : decode cX2_has 38 = .ok (.iconst 0, 1) := by decide +kernel
theorem dX2_has_39 : decode cX2_has 39 = .ok (.ireturn, 1) := by decide +kernel
theorem dX2_mark_0 : decode cX2_mark 0 = .ok (.iload_n 1, 1) := by decide +kernel
theorem dX2_mark_1 : decode cX2_mark 1 = .ok (.iconst 0, 1) := by decide +kernel
theorem dX2_mark_2 : decode cX2_mark 2 = .ok (.invokestatic 21, 3) := by decide +kernel
theorem dX2_mark_5 : decode cX2_mark 5 = .ok (.bipush 6, 2) := by decide +kernel
theorem dX2_mark_7 : decode cX2_mark 7 = .ok (.ishr, 1) := by decide +kernel
theorem dX2_mark_8 : decode cX2_mark 8 = .ok (.istore_n 3, 1) := by decide +kernel
theorem dX2_mark_9 : decode cX2_mark 9 = .ok (.iload_n 3, 1) := by decide +kernel
theorem dX2_mark_10 : decode cX2_mark 10 = .ok (.sipush 229, 3) := by decide +kernel
theorem dX2_mark_13 : decode cX2_mark 13 = .ok (.if_icmp .ge 32, 3) := by decide +kernel
theorem dX2_mark_16 : decode cX2_mark 16 = .ok (.iload_n 3, 1) := by decide +kernel
theorem dX2_mark_17 : decode cX2_mark 17 = .ok (.iload_n 2, 1) := by decide +kernel
theorem dX2_mark_18 : decode cX2_mark 18 = .ok (.bipush 6, 2) := by decide +kernel
theorem dX2_mark_20 : decode cX2_mark 20 = .ok (.ishr, 1) := by decide +kernel
theorem dX2_mark_21 : decode cX2_mark 21 = .ok (.if_icmp .gt 24, 3) := by decide +kernel
theorem dX2_mark_24 : decode cX2_mark 24 = .ok (.aload_n 0, 1) := by decide +kernel
theorem dX2_mark_25 : decode cX2_mark 25 = .ok (.getfield 11, 3) := by decide +kernel
theorem dX2_mark_28 : decode cX2_mark 28 = .ok (.iload_n 3, 1) := by decide +kernel
theorem dX2_mark_29 : decode cX2_mark 29 = .ok (.dup2, 1) := by decide +kernel
theorem dX2_mark_30 : decode cX2_mark 30 = .ok (.laload, 1) := by decide +kernel
theorem dX2_mark_31 : decode cX2_mark 31 = .ok (.iload_n 3, 1) := by decide +kernel
theorem dX2_mark_32 : decode cX2_mark 32 = .ok (.iload_n 1, 1) := by decide +kernel
theorem dX2_mark_33 : decode cX2_mark 33 = .ok (.iload_n 2, 1) := by decide +kernel
theorem dX2_mark_34 : decode cX2_mark 34 = .ok (.invokestatic 27, 3) := by decide +kernel
theorem dX2_mark_37 : decode cX2_mark 37 = .ok (.lor, 1) := by decide +kernel
theorem dX2_mark_38 : decode cX2_mark 38 = .ok (.lastore, 1) := by decide +kernel
theorem dX2_mark_39 : decode cX2_mark 39 = .ok (.iinc 3 1, 3) := by decide +kernel
theorem dX2_mark_42 : decode cX2_mark 42 = .ok (.goto (-33), 3) := by decide +kernel
theorem dX2_mark_45 : decode cX2_mark 45 = .ok (.return_, 1) := by decide +kernel
theorem dX2_sizeWithin_0 : decode cX2_sizeWithin 0 = .ok (.iconst 0, 1) := by decide +kernel
theorem dX2_sizeWithin_1 : decode cX2_sizeWithin 1 = .ok (.istore_n 3, 1) := by decide +kernel
theorem dX2_sizeWithin_2 : decode cX2_sizeWithin 2 = .ok (.iload_n 1, 1) := by decide +kernel
theorem dX2_sizeWithin_3 : decode cX2_sizeWithin 3 = .ok (.iconst 0, 1) := by decide +kernel
theorem dX2_sizeWithin_4 : decode cX2_sizeWithin 4 = .ok (.invokestatic 21, 3) := by decide +kernel
theorem dX2_sizeWithin_7 : decode cX2_sizeWithin 7 = .ok (.bipush 6, 2) := by decide +kernel
theorem dX2_sizeWithin_9 : decode cX2_sizeWithin 9 = .ok (.ishr, 1) := by decide +kernel
theorem dX2_sizeWithin_10 : decode cX2_sizeWithin 10 = .ok (.istore 4, 2) := by decide +kernel
theorem dX2_sizeWithin_12 : decode cX2_sizeWithin 12 = .ok (.iload 4, 2) := by decide +kernel
theorem dX2_sizeWithin_14 : decode cX2_sizeWithin 14 = .ok (.sipush 229, 3) := by decide +kernel
theorem dX2_sizeWithin_17 : decode cX2_sizeWithin 17 = .ok (.if_icmp .ge 39, 3) := by decide +kernel
theorem dX2_sizeWithin_20 : decode cX2_sizeWithin 20 = .ok (.iload 4, 2) := by decide +kernel
theorem dX2_sizeWithin_22 : decode cX2_sizeWithin 22 = .ok (.iload_n 2, 1) := by decide +kernel
theorem dX2_sizeWithin_23 : decode cX2_sizeWithin 23 = .ok (.bipush 6, 2) := by decide +kernel
theorem dX2_sizeWithin_25 : decode cX2_sizeWithin 25 = .ok (.ishr, 1) := by decide +kernel
theorem dX2_sizeWithin_26 : decode cX2_sizeWithin 26 = .ok (.if_icmp .gt 30, 3) := by decide +kernel
theorem dX2_sizeWithin_29 : decode cX2_sizeWithin 29 = .ok (.iload_n 3, 1) := by decide +kernel
theorem dX2_sizeWithin_30 : decode cX2_sizeWithin 30 = .ok (.aload_n 0, 1) := by decide +kernel
theorem dX2_sizeWithin_31 : decode cX2_sizeWithin 31 = .ok (.getfield 11, 3) := by decide +kernel
theorem dX2_sizeWithin_34 : decode cX2_sizeWithin 34 = .ok (.iload 4, 2) := by decide +kernel
theorem dX2_sizeWithin_36 : decode cX2_sizeWithin 36 = .ok (.laload, 1) := by decide +kernel
theorem dX2_sizeWithin_37 : decode cX2_sizeWithin 37 = .ok (.iload 4, 2) := by decide +kernel
theorem dX2_sizeWithin_39 : decode cX2_sizeWithin 39 = .ok (.iload_n 1, 1) := by decide +kernel
theorem dX2_sizeWithin_40 : decode cX2_sizeWithin 40 = .ok (.iload_n 2, 1) := by decide +kernel
theorem dX2_sizeWithin_41 : decode cX2_sizeWithin 41 = .ok (.invokestatic 27, 3) := by decide +kernel
theorem dX2_sizeWithin_44 : decode cX2_sizeWithin 44 = .ok (.land, 1) := by decide +kernel
theorem dX2_sizeWithin_45 : decode cX2_sizeWithin 45 = .ok (.invokestatic 31, 3) := by decide +kernel
theorem dX2_sizeWithin_48 : decode cX2_sizeWithin 48 = .ok (.iadd, 1) := by decide +kernel
theorem dX2_sizeWithin_49 : decode cX2_sizeWithin 49 = .ok (.istore_n 3, 1) := by decide +kernel
theorem dX2_sizeWithin_50 : decode cX2_sizeWithin 50 = .ok (.iinc 4 1, 3) := by decide +kernel
theorem dX2_sizeWithin_53 : decode cX2_sizeWithin 53 = .ok (.goto (-41), 3) := by decide +kernel
theorem dX2_sizeWithin_56 : decode cX2_sizeWithin 56 = .ok (.iload_n 3, 1) := by decide +kernel
theorem dX2_sizeWithin_57 : decode cX2_sizeWithin 57 = .ok (.ireturn, 1) := by decide +kernel
theorem dX2_sizeWithout_0 : decode cX2_sizeWithout 0 = .ok (.iconst 0, 1) := by decide +kernel
theorem dX2_sizeWithout_1 : decode cX2_sizeWithout 1 = .ok (.istore_n 2, 1) := by decide +kernel
theorem dX2_sizeWithout_2 : decode cX2_sizeWithout 2 = .ok (.iconst 0, 1) := by decide +kernel
theorem dX2_sizeWithout_3 : decode cX2_sizeWithout 3 = .ok (.istore_n 3, 1) := by decide +kernel
theorem dX2_sizeWithout_4 : decode cX2_sizeWithout 4 = .ok (.iload_n 3, 1) := by decide +kernel
theorem dX2_sizeWithout_5 : decode cX2_sizeWithout 5 = .ok (.sipush 229, 3) := by decide +kernel
theorem dX2_sizeWithout_8 : decode cX2_sizeWithout 8 = .ok (.if_icmp .ge 32, 3) := by decide +kernel
theorem dX2_sizeWithout_11 : decode cX2_sizeWithout 11 = .ok (.iload_n 2, 1) := by decide +kernel
theorem dX2_sizeWithout_12 : decode cX2_sizeWithout 12 = .ok (.aload_n 0, 1) := by decide +kernel
theorem dX2_sizeWithout_13 : decode cX2_sizeWithout 13 = .ok (.getfield 11, 3) := by decide +kernel
theorem dX2_sizeWithout_16 : decode cX2_sizeWithout 16 = .ok (.iload_n 3, 1) := by decide +kernel
theorem dX2_sizeWithout_17 : decode cX2_sizeWithout 17 = .ok (.laload, 1) := by decide +kernel
theorem dX2_sizeWithout_18 : decode cX2_sizeWithout 18 = .ok (.aload_n 1, 1) := by decide +kernel
theorem dX2_sizeWithout_19 : decode cX2_sizeWithout 19 = .ok (.getfield 11, 3) := by decide +kernel
theorem dX2_sizeWithout_22 : decode cX2_sizeWithout 22 = .ok (.iload_n 3, 1) := by decide +kernel
theorem dX2_sizeWithout_23 : decode cX2_sizeWithout 23 = .ok (.laload, 1) := by decide +kernel
theorem dX2_sizeWithout_24 : decode cX2_sizeWithout 24 = .ok (.ldc2_w 37, 3) := by decide +kernel
theorem dX2_sizeWithout_27 : decode cX2_sizeWithout 27 = .ok (.lxor, 1) := by decide +kernel
theorem dX2_sizeWithout_28 : decode cX2_sizeWithout 28 = .ok (.land, 1) := by decide +kernel
theorem dX2_sizeWithout_29 : decode cX2_sizeWithout 29 = .ok (.invokestatic 31, 3) := by decide +kernel
theorem dX2_sizeWithout_32 : decode cX2_sizeWithout 32 = .ok (.iadd, 1) := by decide +kernel
theorem dX2_sizeWithout_33 : decode cX2_sizeWithout 33 = .ok (.istore_n 2, 1) := by decide +kernel
theorem dX2_sizeWithout_34 : decode cX2_sizeWithout 34 = .ok (.iinc 3 1, 3) := by decide +kernel
theorem dX2_sizeWithout_37 : decode cX2_sizeWithout 37 = .ok (.goto (-33), 3) := by decide +kernel
theorem dX2_sizeWithout_40 : decode cX2_sizeWithout 40 = .ok (.iload_n 2, 1) := by decide +kernel
theorem dX2_sizeWithout_41 : decode cX2_sizeWithout 41 = .ok (.ireturn, 1) := by decide +kernel
theorem dX2_bitsWithin_0 : decode cX2_bitsWithin 0 = .ok (.iload_n 1, 1) := by decide +kernel
theorem dX2_bitsWithin_1 : decode cX2_bitsWithin 1 = .ok (.iload_n 0, 1) := by decide +kernel
theorem dX2_bitsWithin_2 : decode cX2_bitsWithin 2 = .ok (.bipush 6, 2) := by decide +kernel
theorem dX2_bitsWithin_4 : decode cX2_bitsWithin 4 = .ok (.ishl, 1) := by decide +kernel
theorem dX2_bitsWithin_5 : decode cX2_bitsWithin 5 = .ok (.isub, 1) := by decide +kernel
theorem dX2_bitsWithin_6 : decode cX2_bitsWithin 6 = .ok (.iconst 0, 1) := by decide +kernel
theorem dX2_bitsWithin_7 : decode cX2_bitsWithin 7 = .ok (.invokestatic 21, 3) := by decide +kernel
theorem dX2_bitsWithin_10 : decode cX2_bitsWithin 10 = .ok (.istore_n 3, 1) := by decide +kernel
theorem dX2_bitsWithin_11 : decode cX2_bitsWithin 11 = .ok (.iload_n 2, 1) := by decide +kernel
theorem dX2_bitsWithin_12 : decode cX2_bitsWithin 12 = .ok (.iload_n 0, 1) := by decide +kernel
theorem dX2_bitsWithin_13 : decode cX2_bitsWithin 13 = .ok (.bipush 6, 2) := by decide +kernel
theorem dX2_bitsWithin_15 : decode cX2_bitsWithin 15 = .ok (.ishl, 1) := by decide +kernel
theorem dX2_bitsWithin_16 : decode cX2_bitsWithin 16 = .ok (.isub, 1) := by decide +kernel
theorem dX2_bitsWithin_17 : decode cX2_bitsWithin 17 = .ok (.bipush 63, 2) := by decide +kernel
theorem dX2_bitsWithin_19 : decode cX2_bitsWithin 19 = .ok (.invokestatic 39, 3) := by decide +kernel
theorem dX2_bitsWithin_22 : decode cX2_bitsWithin 22 = .ok (.istore 4, 2) := by decide +kernel
theorem dX2_bitsWithin_24 : decode cX2_bitsWithin 24 = .ok (.iload_n 3, 1) := by decide +kernel
theorem dX2_bitsWithin_25 : decode cX2_bitsWithin 25 = .ok (.iload 4, 2) := by decide +kernel
theorem dX2_bitsWithin_27 : decode cX2_bitsWithin 27 = .ok (.if_icmp .le 7, 3) := by decide +kernel
theorem dX2_bitsWithin_30 : decode cX2_bitsWithin 30 = .ok (.lconst 0, 1) := by decide +kernel
theorem dX2_bitsWithin_31 : decode cX2_bitsWithin 31 = .ok (.goto 18, 3) := by decide +kernel
theorem dX2_bitsWithin_34 : decode cX2_bitsWithin 34 = .ok (.ldc2_w 37, 3) := by decide +kernel
theorem dX2_bitsWithin_37 : decode cX2_bitsWithin 37 = .ok (.iload_n 3, 1) := by decide +kernel
theorem dX2_bitsWithin_38 : decode cX2_bitsWithin 38 = .ok (.lshl, 1) := by decide +kernel
theorem dX2_bitsWithin_39 : decode cX2_bitsWithin 39 = .ok (.ldc2_w 37, 3) := by decide +kernel
theorem dX2_bitsWithin_42 : decode cX2_bitsWithin 42 = .ok (.bipush 63, 2) := by decide +kernel
theorem dX2_bitsWithin_44 : decode cX2_bitsWithin 44 = .ok (.iload 4, 2) := by decide +kernel
theorem dX2_bitsWithin_46 : decode cX2_bitsWithin 46 = .ok (.isub, 1) := by decide +kernel
theorem dX2_bitsWithin_47 : decode cX2_bitsWithin 47 = .ok (.lushr, 1) := by decide +kernel
theorem dX2_bitsWithin_48 : decode cX2_bitsWithin 48 = .ok (.land, 1) := by decide +kernel
theorem dX2_bitsWithin_49 : decode cX2_bitsWithin 49 = .ok (.lreturn, 1) := by decide +kernel
theorem dX3_init_0 : decode cX3_init 0 = .ok (.aload_n 0, 1) := by decide +kernel
theorem dX3_init_1 : decode cX3_init 1 = .ok (.invokespecial 3, 3) := by decide +kernel
theorem dX3_init_4 : decode cX3_init 4 = .ok (.aload_n 0, 1) := by decide +kernel
theorem dX3_init_5 : decode cX3_init 5 = .ok (.iconst (-1), 1) := by decide +kernel
theorem dX3_init_6 : decode cX3_init 6 = .ok (.putfield 9, 3) := by decide +kernel
theorem dX3_init_9 : decode cX3_init 9 = .ok (.return_, 1) := by decide +kernel
theorem dX3_replace_0 : decode cX3_replace 0 = .ok (.aload_n 0, 1) := by decide +kernel
theorem dX3_replace_1 : decode cX3_replace 1 = .ok (.dup, 1) := by decide +kernel
theorem dX3_replace_2 : decode cX3_replace 2 = .ok (.getfield 9, 3) := by decide +kernel
theorem dX3_replace_5 : decode cX3_replace 5 = .ok (.iconst 1, 1) := by decide +kernel
theorem dX3_replace_6 : decode cX3_replace 6 = .ok (.iadd, 1) := by decide +kernel
theorem dX3_replace_7 : decode cX3_replace 7 = .ok (.putfield 9, 3) := by decide +kernel
theorem dX3_replace_10 : decode cX3_replace 10 = .ok (.aload_n 0, 1) := by decide +kernel
theorem dX3_replace_11 : decode cX3_replace 11 = .ok (.iload_n 1, 1) := by decide +kernel
theorem dX3_replace_12 : decode cX3_replace 12 = .ok (.putfield 15, 3) := by decide +kernel
theorem dX3_replace_15 : decode cX3_replace 15 = .ok (.aload_n 0, 1) := by decide +kernel
theorem dX3_replace_16 : decode cX3_replace 16 = .ok (.iload_n 2, 1) := by decide +kernel
theorem dX3_replace_17 : decode cX3_replace 17 = .ok (.putfield 18, 3) := by decide +kernel
theorem dX3_replace_20 : decode cX3_replace 20 = .ok (.aload_n 0, 1) := by decide +kernel
theorem dX3_replace_21 : decode cX3_replace 21 = .ok (.iload_n 3, 1) := by decide +kernel
theorem dX3_replace_22 : decode cX3_replace 22 = .ok (.putfield 21, 3) := by decide +kernel
theorem dX3_replace_25 : decode cX3_replace 25 = .ok (.return_, 1) := by decide +kernel
theorem dX3_lowerLimit_0 : decode cX3_lowerLimit 0 = .ok (.aload_n 0, 1) := by decide +kernel
theorem dX3_lowerLimit_1 : decode cX3_lowerLimit 1 = .ok (.aload_n 0, 1) := by decide +kernel
theorem dX3_lowerLimit_2 : decode cX3_lowerLimit 2 = .ok (.getfield 21, 3) := by decide +kernel
theorem dX3_lowerLimit_5 : decode cX3_lowerLimit 5 = .ok (.iload_n 1, 1) := by decide +kernel
theorem dX3_lowerLimit_6 : decode cX3_lowerLimit 6 = .ok (.invokestatic 24, 3) := by decide +kernel
theorem dX3_lowerLimit_9 : decode cX3_lowerLimit 9 = .ok (.putfield 21, 3) := by decide +kernel
theorem dX3_lowerLimit_12 : decode cX3_lowerLimit 12 = .ok (.return_, 1) := by decide +kernel
theorem dX3_endWith_0 : decode cX3_endWith 0 = .ok (.aload_n 0, 1) := by decide +kernel
theorem dX3_endWith_1 : decode cX3_endWith 1 = .ok (.getfield 18, 3) := by decide +kernel
theorem dX3_endWith_4 : decode cX3_endWith 4 = .ok (.ifCond .ne 10, 3) := by decide +kernel
theorem dX3_endWith_7 : decode cX3_endWith 7 = .ok (.aload_n 0, 1) := by decide +kernel
theorem dX3_endWith_8 : decode cX3_endWith 8 = .ok (.getfield 21, 3) := by decide +kernel
theorem dX3_endWith_11 : decode cX3_endWith 11 = .ok (.goto 21, 3) := by decide +kernel
theorem dX3_endWith_14 : decode cX3_endWith 14 = .ok (.aload_n 0, 1) := by decide +kernel
theorem dX3_endWith_15 : decode cX3_endWith 15 = .ok (.getfield 21, 3) := by decide +kernel
theorem dX3_endWith_18 : decode cX3_endWith 18 = .ok (.aload_n 0, 1) := by decide +kernel
theorem dX3_endWith_19 : decode cX3_endWith 19 = .ok (.getfield 15, 3) := by decide +kernel
theorem dX3_endWith_22 : decode cX3_endWith 22 = .ok (.aload_n 0, 1) := by decide +kernel
theorem dX3_endWith_23 : decode cX3_endWith 23 = .ok (.getfield 18, 3) := by decide +kernel
theorem dX3_endWith_26 : decode cX3_endWith 26 = .ok (.iadd, 1) := by decide +kernel
theorem dX3_endWith_27 : decode cX3_endWith 27 = .ok (.iload_n 1, 1) := by decide +kernel
theorem dX3_endWith_28 : decode cX3_endWith 28 = .ok (.iadd, 1) := by decide +kernel
theorem dX3_endWith_29 : decode cX3_endWith 29 = .ok (.invokestatic 24, 3) := by decide +kernel
theorem dX3_endWith_32 : decode cX3_endWith 32 = .ok (.ireturn, 1) := by decide +kernel
theorem dX4_init_0 : decode cX4_init 0 = .ok (.aload_n 0, 1) := by decide +kernel
theorem dX4_init_1 : decode cX4_init 1 = .ok (.invokespecial 3, 3) := by decide +kernel
theorem dX4_init_4 : decode cX4_init 4 = .ok (.aload_n 0, 1) := by decide +kernel
theorem dX4_init_5 : decode cX4_init 5 = .ok (.bipush 8, 2) := by decide +kernel
theorem dX4_init_7 : decode cX4_init 7 = .ok (.newarray .int, 2) := by decide +kernel
theorem dX4_init_9 : decode cX4_init 9 = .ok (.putfield 9, 3) := by decide +kernel
theorem dX4_init_12 : decode cX4_init 12 = .ok (.aload_n 0, 1) := by decide +kernel
theorem dX4_init_13 : decode cX4_init 13 = .ok (.bipush 8, 2) := by decide +kernel
theorem dX4_init_15 : decode cX4_init 15 = .ok (.newarray .int, 2) := by decide +kernel
theorem dX4_init_17 : decode cX4_init 17 = .ok (.putfield 15, 3) := by decide +kernel
theorem dX4_init_20 : decode cX4_init 20 = .ok (.aload_n 0, 1) := by decide +kernel
theorem dX4_init_21 : decode cX4_init 21 = .ok (.bipush 8, 2) := by decide +kernel
theorem dX4_init_23 : decode cX4_init 23 = .ok (.newarray .int, 2) := by decide +kernel
theorem dX4_init_25 : decode cX4_init 25 = .ok (.putfield 18, 3) := by decide +kernel
theorem dX4_init_28 : decode cX4_init 28 = .ok (.aload_n 0, 1) := by decide +kernel
theorem dX4_init_29 : decode cX4_init 29 = .ok (.bipush 8, 2) := by decide +kernel
theorem dX4_init_31 : decode cX4_init 31 = .ok (.newarray .int, 2) := by decide +kernel
theorem dX4_init_33 : decode cX4_init 33 = .ok (.putfield 21, 3) := by decide +kernel
theorem dX4_init_36 : decode cX4_init 36 = .ok (.aload_n 0, 1) := by decide +kernel
theorem dX4_init_37 : decode cX4_init 37 = .ok (.bipush 8, 2) := by decide +kernel
theorem dX4_init_39 : decode cX4_init 39 = .ok (.newarray .int, 2) := by decide +kernel
theorem dX4_init_41 : decode cX4_init 41 = .ok (.putfield 24, 3) := by decide +kernel
theorem dX4_init_44 : decode cX4_init 44 = .ok (.return_, 1) := by decide +kernel
theorem dX4_add_0 : decode cX4_add 0 = .ok (.aload_n 0, 1) := by decide +kernel
theorem dX4_add_1 : decode cX4_add 1 = .ok (.getfield 9, 3) := by decide +kernel
theorem dX4_add_4 : decode cX4_add 4 = .ok (.aload_n 0, 1) := by decide +kernel
theorem dX4_add_5 : decode cX4_add 5 = .ok (.getfield 27, 3) := by decide +kernel
theorem dX4_add_8 : decode cX4_add 8 = .ok (.iload_n 1, 1) := by decide +kernel
theorem dX4_add_9 : decode cX4_add 9 = .ok (.iastore, 1) := by decide +kernel
theorem dX4_add_10 : decode cX4_add 10 = .ok (.aload_n 0, 1) := by decide +kernel
theorem dX4_add_11 : decode cX4_add 11 = .ok (.getfield 15, 3) := by decide +kernel
theorem dX4_add_14 : decode cX4_add 14 = .ok (.aload_n 0, 1) := by decide +kernel
theorem dX4_add_15 : decode cX4_add 15 = .ok (.getfield 27, 3) := by decide +kernel
theorem dX4_add_18 : decode cX4_add 18 = .ok (.iload_n 2, 1) := by decide +kernel
theorem dX4_add_19 : decode cX4_add 19 = .ok (.iastore, 1) := by decide +kernel
theorem dX4_add_20 : decode cX4_add 20 = .ok (.aload_n 0, 1) := by decide +kernel
theorem dX4_add_21 : decode cX4_add 21 = .ok (.getfield 18, 3) := by decide +kernel
theorem dX4_add_24 : decode cX4_add 24 = .ok (.aload_n 0, 1) := by decide +kernel
theorem dX4_add_25 : decode cX4_add 25 = .ok (.getfield 27, 3) := by decide +kernel
theorem dX4_add_28 : decode cX4_add 28 = .ok (.iload_n 3, 1) := by decide +kernel
theorem dX4_add_29 : decode cX4_add 29 = .ok (.iastore, 1) := by decide +kernel
theorem dX4_add_30 : decode cX4_add 30 = .ok (.aload_n 0, 1) := by decide +kernel
theorem dX4_add_31 : decode cX4_add 31 = .ok (.dup, 1) := by decide +kernel
theorem dX4_add_32 : decode cX4_add 32 = .ok (.getfield 27, 3) := by decide +kernel
theorem dX4_add_35 : decode cX4_add 35 = .ok (.iconst 1, 1) := by decide +kernel
theorem dX4_add_36 : decode cX4_add 36 = .ok (.iadd, 1) := by decide +kernel
theorem dX4_add_37 : decode cX4_add 37 = .ok (.putfield 27, 3) := by decide +kernel
theorem dX4_add_40 : decode cX4_add 40 = .ok (.return_, 1) := by decide +kernel
theorem dX4_belongsTo_0 : decode cX4_belongsTo 0 = .ok (.iload_n 1, 1) := by decide +kernel
theorem dX4_belongsTo_1 : decode cX4_belongsTo 1 = .ok (.iconst 1, 1) := by decide +kernel
theorem dX4_belongsTo_2 : decode cX4_belongsTo 2 = .ok (.aload_n 0, 1) := by decide +kernel
theorem dX4_belongsTo_3 : decode cX4_belongsTo 3 = .ok (.getfield 9, 3) := by decide +kernel
theorem dX4_belongsTo_6 : decode cX4_belongsTo 6 = .ok (.iload_n 2, 1) := by decide +kernel
theorem dX4_belongsTo_7 : decode cX4_belongsTo 7 = .ok (.iaload, 1) := by decide +kernel
theorem dX4_belongsTo_8 : decode cX4_belongsTo 8 = .ok (.ishl, 1) := by decide +kernel
theorem dX4_belongsTo_9 : decode cX4_belongsTo 9 = .ok (.iand, 1) := by decide +kernel
theorem dX4_belongsTo_10 : decode cX4_belongsTo 10 = .ok (.ifCond .eq 7, 3) := by decide +kernel
theorem dX4_belongsTo_13 : decode cX4_belongsTo 13 = .ok (.iconst 1, 1) := by decide +kernel
theorem dX4_belongsTo_14 : decode cX4_belongsTo 14 = .ok (.goto 4, 3) := by decide +kernel
theorem dX4_belongsTo_17 : decode cX4_belongsTo 17 = .ok (.iconst 0, 1) := by decide +kernel
theorem dX4_belongsTo_18 : decode cX4_belongsTo 18 = .ok (.ireturn, 1) := by decide +kernel
theorem dX4_sort_0 : decode cX4_sort 0 = .ok (.iconst 0, 1) := by decide +kernel
theorem dX4_sort_1 : decode cX4_sort 1 = .ok (.istore_n 2, 1) := by decide +kernel
theorem dX4_sort_2 : decode cX4_sort 2 = .ok (.iconst 0, 1) := by decide +kernel
theorem dX4_sort_3 : decode cX4_sort 3 = .ok (.istore_n 3, 1) := by decide +kernel
theorem dX4_sort_4 : decode cX4_sort 4 = .ok (.iload_n 3, 1) := by decide +kernel
theorem dX4_sort_5 : decode cX4_sort 5 = .ok (.aload_n 0, 1) := by decide +kernel
theorem dX4_sort_6 : decode cX4_sort 6 = .ok (.getfield 27, 3) := by decide +kernel
theorem dX4_sort_9 : decode cX4_sort 9 = .ok (.if_icmp .ge 38, 3) := by decide +kernel
theorem dX4_sort_12 : decode cX4_sort 12 = .ok (.aload_n 0, 1) := by decide +kernel
theorem dX4_sort_13 : decode cX4_sort 13 = .ok (.iload_n 1, 1) := by decide +kernel
theorem dX4_sort_14 : decode cX4_sort 14 = .ok (.iload_n 3, 1) := by decide +kernel
theorem dX4_sort_15 : decode cX4_sort 15 = .ok (.invokevirtual 31, 3) := by decide +kernel
theorem dX4_sort_18 : decode cX4_sort 18 = .ok (.ifCond .eq 23, 3) := by decide +kernel
theorem dX4_sort_21 : decode cX4_sort 21 = .ok (.aload_n 0, 1) := by decide +kernel
theorem dX4_sort_22 : decode cX4_sort 22 = .ok (.iload_n 2, 1) := by decide +kernel
theorem dX4_sort_23 : decode cX4_sort 23 = .ok (.aload_n 0, 1) := by decide +kernel
theorem dX4_sort_24 : decode cX4_sort 24 = .ok (.getfield 15, 3) := by decide +kernel
theorem dX4_sort_27 : decode cX4_sort 27 = .ok (.iload_n 3, 1) := by decide +kernel
theorem dX4_sort_28 : decode cX4_sort 28 = .ok (.iaload, 1) := by decide +kernel
theorem dX4_sort_29 : decode cX4_sort 29 = .ok (.aload_n 0, 1) := by decide +kernel
theorem dX4_sort_30 : decode cX4_sort 30 = .ok (.getfield 18, 3) := by decide +kernel
theorem dX4_sort_33 : decode cX4_sort 33 = .ok (.iload_n 3, 1) := by decide +kernel
theorem dX4_sort_34 : decode cX4_sort 34 = .ok (.iaload, 1) := by decide +kernel
theorem dX4_sort_35 : decode cX4_sort 35 = .ok (.invokevirtual 35, 3) := by decide +kernel
theorem dX4_sort_38 : decode cX4_sort 38 = .ok (.iinc 2 1, 3) := by decide +kernel
theorem dX4_sort_41 : decode cX4_sort 41 = .ok (.iinc 3 1, 3) := by decide +kernel
theorem dX4_sort_44 : decode cX4_sort 44 = .ok (.goto (-40), 3) := by decide +kernel
theorem dX4_sort_47 : decode cX4_sort 47 = .ok (.iload_n 2, 1) := by decide +kernel
theorem dX4_sort_48 : decode cX4_sort 48 = .ok (.ireturn, 1) := by decide +kernel
theorem dX4_insert_0 : decode cX4_insert 0 = .ok (.iload_n 1, 1) := by decide +kernel
theorem dX4_insert_1 : decode cX4_insert 1 = .ok (.istore 4, 2) := by decide +kernel
theorem dX4_insert_3 : decode cX4_insert 3 = .ok (.iload 4, 2) := by decide +kernel
theorem dX4_insert_5 : decode cX4_insert 5 = .ok (.ifCond .le 54, 3) := by decide +kernel
theorem dX4_insert_8 : decode cX4_insert 8 = .ok (.aload_n 0, 1) := by decide +kernel
theorem dX4_insert_9 : decode cX4_insert 9 = .ok (.getfield 21, 3) := by decide +kernel
theorem dX4_insert_12 : decode cX4_insert 12 = .ok (.iload 4, 2) := by decide +kernel
theorem dX4_insert_14 : decode cX4_insert 14 = .ok (.iconst 1, 1) := by decide +kernel
theorem dX4_insert_15 : decode cX4_insert 15 = .ok (.isub, 1) := by decide +kernel
theorem dX4_insert_16 : decode cX4_insert 16 = .ok (.iaload, 1) := by decide +kernel
theorem dX4_insert_17 : decode cX4_insert 17 = .ok (.iload_n 2, 1) := by decide +kernel
theorem dX4_insert_18 : decode cX4_insert 18 = .ok (.if_icmp .le 41, 3) := by decide +kernel
theorem dX4_insert_21 : decode cX4_insert 21 = .ok (.aload_n 0, 1) := by decide +kernel
theorem dX4_insert_22 : decode cX4_insert 22 = .ok (.getfield 21, 3) := by decide +kernel
theorem dX4_insert_25 : decode cX4_insert 25 = .ok (.iload 4, 2) := by decide +kernel
theorem dX4_insert_27 : decode cX4_insert 27 = .ok (.aload_n 0, 1) := by decide +kernel
theorem dX4_insert_28 : decode cX4_insert 28 = .ok (.getfield 21, 3) := by decide +kernel
theorem dX4_insert_31 : decode cX4_insert 31 = .ok (.iload 4, 2) := by decide +kernel
theorem dX4_insert_33 : decode cX4_insert 33 = .ok (.iconst 1, 1) := by decide +kernel
theorem dX4_insert_34 : decode cX4_insert 34 = .ok (.isub, 1) := by decide +kernel
theorem dX4_insert_35 : decode cX4_insert 35 = .ok (.iaload, 1) := by decide +kernel
theorem dX4_insert_36 : decode cX4_insert 36 = .ok (.iastore, 1) := by decide +kernel
theorem dX4_insert_37 : decode cX4_insert 37 = .ok (.aload_n 0, 1) := by decide +kernel
theorem dX4_insert_38 : decode cX4_insert 38 = .ok (.getfield 24, 3) := by decide +kernel
theorem dX4_insert_41 : decode cX4_insert 41 = .ok (.iload 4, 2) := by decide +kernel
theorem dX4_insert_43 : decode cX4_insert 43 = .ok (.aload_n 0, 1) := by decide +kernel
theorem dX4_insert_44 : decode cX4_insert 44 = .ok (.getfield 24, 3) := by decide +kernel
theorem dX4_insert_47 : decode cX4_insert 47 = .ok (.iload 4, 2) := by decide +kernel
theorem dX4_insert_49 : decode cX4_insert 49 = .ok (.iconst 1, 1) := by decide +kernel
theorem dX4_insert_50 : decode cX4_insert 50 = .ok (.isub, 1) := by decide +kernel
theorem dX4_insert_51 : decode cX4_insert 51 = .ok (.iaload, 1) := by decide +kernel
theorem dX4_insert_52 : decode cX4_insert 52 = .ok (.iastore, 1) := by decide +kernel
theorem dX4_insert_53 : decode cX4_insert 53 = .ok (.iinc 4 (-1), 3) := by decide +kernel
theorem dX4_insert_56 : decode cX4_insert 56 = .ok (.goto (-53), 3) := by decide +kernel
theorem dX4_insert_59 : decode cX4_insert 59 = .ok (.aload_n 0, 1) := by decide +kernel
theorem dX4_insert_60 : decode cX4_insert 60 = .ok (.getfield 21, 3) := by decide +kernel
theorem dX4_insert_63 : decode cX4_insert 63 = .ok (.iload 4, 2) := by decide +kernel
theorem dX4_insert_65 : decode cX4_insert 65 = .ok (.iload_n 2, 1) := by decide +kernel
theorem dX4_insert_66 : decode cX4_insert 66 = .ok (.iastore, 1) := by decide +kernel
theorem dX4_insert_67 : decode cX4_insert 67 = .ok (.aload_n 0, 1) := by decide +kernel
theorem dX4_insert_68 : decode cX4_insert 68 = .ok (.getfield 24, 3) := by decide +kernel
theorem dX4_insert_71 : decode cX4_insert 71 = .ok (.iload 4, 2) := by decide +kernel
theorem dX4_insert_73 : decode cX4_insert 73 = .ok (.iload_n 3, 1) := by decide +kernel
theorem dX4_insert_74 : decode cX4_insert 74 = .ok (.iastore, 1) := by decide +kernel
theorem dX4_insert_75 : decode cX4_insert 75 = .ok (.return_, 1) := by decide +kernel
theorem dX5_init_0 : decode cX5_init 0 = .ok (.aload_n 0, 1) := by decide +kernel
theorem dX5_init_1 : decode cX5_init 1 = .ok (.invokespecial 3, 3) := by decide +kernel
theorem dX5_init_4 : decode cX5_init 4 = .ok (.aload_n 0, 1) := by decide +kernel
theorem dX5_init_5 : decode cX5_init 5 = .ok (.bipush 10, 2) := by decide +kernel
theorem dX5_init_7 : decode cX5_init 7 = .ok (.newarray .int, 2) := by decide +kernel
theorem dX5_init_9 : decode cX5_init 9 = .ok (.putfield 9, 3) := by decide +kernel
theorem dX5_init_12 : decode cX5_init 12 = .ok (.aload_n 0, 1) := by decide +kernel
theorem dX5_init_13 : decode cX5_init 13 = .ok (.bipush 10, 2) := by decide +kernel
theorem dX5_init_15 : decode cX5_init 15 = .ok (.newarray .int, 2) := by decide +kernel
theorem dX5_init_17 : decode cX5_init 17 = .ok (.putfield 15, 3) := by decide +kernel
theorem dX5_init_20 : decode cX5_init 20 = .ok (.aload_n 0, 1) := by decide +kernel
theorem dX5_init_21 : decode cX5_init 21 = .ok (.bipush 10, 2) := by decide +kernel
theorem dX5_init_23 : decode cX5_init 23 = .ok (.newarray .int, 2) := by decide +kernel
theorem dX5_init_25 : decode cX5_init 25 = .ok (.putfield 18, 3) := by decide +kernel
theorem dX5_init_28 : decode cX5_init 28 = .ok (.aload_n 0, 1) := by decide +kernel
theorem dX5_init_29 : decode cX5_init 29 = .ok (.bipush 10, 2) := by decide +kernel
theorem dX5_init_31 : decode cX5_init 31 = .ok (.newarray .int, 2) := by decide +kernel
theorem dX5_init_33 : decode cX5_init 33 = .ok (.putfield 21, 3) := by decide +kernel
theorem dX5_init_36 : decode cX5_init 36 = .ok (.aload_n 0, 1) := by decide +kernel
theorem dX5_init_37 : decode cX5_init 37 = .ok (.bipush 10, 2) := by decide +kernel
theorem dX5_init_39 : decode cX5_init 39 = .ok (.newarray .int, 2) := by decide +kernel
theorem dX5_init_41 : decode cX5_init 41 = .ok (.putfield 24, 3) := by decide +kernel
theorem dX5_init_44 : decode cX5_init 44 = .ok (.aload_n 0, 1) := by decide +kernel
theorem dX5_init_45 : decode cX5_init 45 = .ok (.bipush 10, 2) := by decide +kernel
theorem dX5_init_47 : decode cX5_init 47 = .ok (.newarray .int, 2) := by decide +kernel
theorem dX5_init_49 : decode cX5_init 49 = .ok (.putfield 27, 3) := by decide +kernel
theorem dX5_init_52 : decode cX5_init 52 = .ok (.aload_n 0, 1) := by decide +kernel
theorem dX5_init_53 : decode cX5_init 53 = .ok (.bipush 10, 2) := by decide +kernel
theorem dX5_init_55 : decode cX5_init 55 = .ok (.newarray .boolean, 2) := by decide +kernel
theorem dX5_init_57 : decode cX5_init 57 = .ok (.putfield 30, 3) := by decide +kernel
theorem dX5_init_60 : decode cX5_init 60 = .ok (.aload_n 0, 1) := by decide +kernel
theorem dX5_init_61 : decode cX5_init 61 = .ok (.bipush 10, 2) := by decide +kernel
theorem dX5_init_63 : decode cX5_init 63 = .ok (.newarray .int, 2) := by decide +kernel
theorem dX5_init_65 : decode cX5_init 65 = .ok (.putfield 34, 3) := by decide +kernel
theorem dX5_init_68 : decode cX5_init 68 = .ok (.aload_n 0, 1) := by decide +kernel
theorem dX5_init_69 : decode cX5_init 69 = .ok (.bipush 10, 2) := by decide +kernel
theorem dX5_init_71 : decode cX5_init 71 = .ok (.newarray .int, 2) := by decide +kernel
theorem dX5_init_73 : decode cX5_init 73 = .ok (.putfield 37, 3) := by decide +kernel
theorem dX5_init_76 : decode cX5_init 76 = .ok (.aload_n 0, 1) := by decide +kernel
theorem dX5_init_77 : decode cX5_init 77 = .ok (.bipush 10, 2) := by decide +kernel
theorem dX5_init_79 : decode cX5_init 79 = .ok (.newarray .int, 2) := by decide +kernel
theorem dX5_init_81 : decode cX5_init 81 = .ok (.putfield 40, 3) := by decide +kernel
theorem dX5_init_84 : decode cX5_init 84 = .ok (.aload_n 0, 1) := by decide +kernel
theorem dX5_init_85 : decode cX5_init 85 = .ok (.bipush 10, 2) := by decide +kernel
theorem dX5_init_87 : decode cX5_init 87 = .ok (.newarray .int, 2) := by decide +kernel
theorem dX5_init_89 : decode cX5_init 89 = .ok (.putfield 43, 3) := by decide +kernel
theorem dX5_init_92 : decode cX5_init 92 = .ok (.aload_n 0, 1) := by decide +kernel
theorem dX5_init_93 : decode cX5_init 93 = .ok (.bipush 10, 2) := by decide +kernel
theorem dX5_init_95 : decode cX5_init 95 = .ok (.newarray .int, 2) := by decide +kernel
theorem dX5_init_97 : decode cX5_init 97 = .ok (.putfield 46, 3) := by decide +kernel
theorem dX5_init_100 : decode cX5_init 100 = .ok (.aload_n 0, 1) := by decide +kernel
theorem dX5_init_101 : decode cX5_init 101 = .ok (.bipush 10, 2) := by decide +kernel
theorem dX5_init_103 : decode cX5_init 103 = .ok (.newarray .int, 2) := by decide +kernel
theorem dX5_init_105 : decode cX5_init 105 = .ok (.putfield 49, 3) := by decide +kernel
theorem dX5_init_108 : decode cX5_init 108 = .ok (.aload_n 0, 1) := by decide +kernel
theorem dX5_init_109 : decode cX5_init 109 = .ok (.bipush 10, 2) := by decide +kernel
theorem dX5_init_111 : decode cX5_init 111 = .ok (.newarray .int, 2) := by decide +kernel
theorem dX5_init_113 : decode cX5_init 113 = .ok (.putfield 52, 3) := by decide +kernel
theorem dX5_init_116 : decode cX5_init 116 = .ok (.aload_n 0, 1) := by decide +kernel
theorem dX5_init_117 : decode cX5_init 117 = .ok (.bipush 10, 2) := by decide +kernel
theorem dX5_init_119 : decode cX5_init 119 = .ok (.newarray .int, 2) := by decide +kernel
theorem dX5_init_121 : decode cX5_init 121 = .ok (.putfield 55, 3) := by decide +kernel
theorem dX5_init_124 : decode cX5_init 124 = .ok (.return_, 1) := by decide +kernel
theorem dX5_add_0 : decode cX5_add 0 = .ok (.aload_n 0, 1) := by decide +kernel
theorem dX5_add_1 : decode cX5_add 1 = .ok (.getfield 9, 3) := by decide +kernel
theorem dX5_add_4 : decode cX5_add 4 = .ok (.aload_n 0, 1) := by decide +kernel
theorem dX5_add_5 : decode cX5_add 5 = .ok (.getfield 58, 3) := by decide +kernel
theorem dX5_add_8 : decode cX5_add 8 = .ok (.iload_n 2, 1) := by decide +kernel
theorem dX5_add_9 : decode cX5_add 9 = .ok (.iastore, 1) := by decide +kernel
theorem dX5_add_10 : decode cX5_add 10 = .ok (.aload_n 0, 1) := by decide +kernel
theorem dX5_add_11 : decode cX5_add 11 = .ok (.getfield 15, 3) := by decide +kernel
theorem dX5_add_14 : decode cX5_add 14 = .ok (.aload_n 0, 1) := by decide +kernel
theorem dX5_add_15 : decode cX5_add 15 = .ok (.getfield 58, 3) := by decide +kernel
theorem dX5_add_18 : decode cX5_add 18 = .ok (.iload_n 3, 1) := by decide +kernel
theorem dX5_add_19 : decode cX5_add 19 = .ok (.iastore, 1) := by decide +kernel
theorem dX5_add_20 : decode cX5_add 20 = .ok (.aload_n 0, 1) := by decide +kernel
theorem dX5_add_21 : decode cX5_add 21 = .ok (.getfield 18, 3) := by decide +kernel
theorem dX5_add_24 : decode cX5_add 24 = .ok (.aload_n 0, 1) := by decide +kernel
theorem dX5_add_25 : decode cX5_add 25 = .ok (.getfield 58, 3) := by decide +kernel
theorem dX5_add_28 : decode cX5_add 28 = .ok (.iload 4, 2) := by decide +kernel
theorem dX5_add_30 : decode cX5_add 30 = .ok (.iastore, 1) := by decide +kernel
theorem dX5_add_31 : decode cX5_add 31 = .ok (.aload_n 0, 1) := by decide +kernel
theorem dX5_add_32 : decode cX5_add 32 = .ok (.getfield 21, 3) := by decide +kernel
theorem dX5_add_35 : decode cX5_add 35 = .ok (.aload_n 0, 1) := by decide +kernel
theorem dX5_add_36 : decode cX5_add 36 = .ok (.getfield 58, 3) := by decide +kernel
theorem dX5_add_39 : decode cX5_add 39 = .ok (.iload 5, 2) := by decide +kernel
theorem dX5_add_41 : decode cX5_add 41 = .ok (.iastore, 1) := by decide +kernel
theorem dX5_add_42 : decode cX5_add 42 = .ok (.aload_n 0, 1) := by decide +kernel
theorem dX5_add_43 : decode cX5_add 43 = .ok (.getfield 24, 3) := by decide +kernel
theorem dX5_add_46 : decode cX5_add 46 = .ok (.aload_n 0, 1) := by decide +kernel
theorem dX5_add_47 : decode cX5_add 47 = .ok (.getfield 58, 3) := by decide +kernel
theorem dX5_add_50 : decode cX5_add 50 = .ok (.iload_n 1, 1) := by decide +kernel
theorem dX5_add_51 : decode cX5_add 51 = .ok (.iastore, 1) := by decide +kernel
theorem dX5_add_52 : decode cX5_add 52 = .ok (.aload_n 0, 1) := by decide +kernel
theorem dX5_add_53 : decode cX5_add 53 = .ok (.getfield 27, 3) := by decide +kernel
theorem dX5_add_56 : decode cX5_add 56 = .ok (.aload_n 0, 1) := by decide +kernel
theorem dX5_add_57 : decode cX5_add 57 = .ok (.getfield 58, 3) := by decide +kernel
theorem dX5_add_60 : decode cX5_add 60 = .ok (.iload 5, 2) := by decide +kernel
theorem dX5_add_62 : decode cX5_add 62 = .ok (.iastore, 1) := by decide +kernel
theorem dX5_add_63 : decode cX5_add 63 = .ok (.aload_n 0, 1) := by decide +kernel
theorem dX5_add_64 : decode cX5_add 64 = .ok (.dup, 1) := by decide +kernel
theorem dX5_add_65 : decode cX5_add 65 = .ok (.getfield 58, 3) := by decide +kernel
theorem dX5_add_68 : decode cX5_add 68 = .ok (.iconst 1, 1) := by decide +kernel
theorem dX5_add_69 : decode cX5_add 69 = .ok (.iadd, 1) := by decide +kernel
theorem dX5_add_70 : decode cX5_add 70 = .ok (.putfield 58, 3) := by decide +kernel
theorem dX5_add_73 : decode cX5_add 73 = .ok (.aload_n 0, 1) := by decide +kernel
theorem dX5_add_74 : decode cX5_add 74 = .ok (.getfield 58, 3) := by decide +kernel
theorem dX5_add_77 : decode cX5_add 77 = .ok (.iconst 1, 1) := by decide +kernel
theorem dX5_add_78 : decode cX5_add 78 = .ok (.isub, 1) := by decide +kernel
theorem dX5_add_79 : decode cX5_add 79 = .ok (.ireturn, 1) := by decide +kernel
theorem dX5_standing_0 : decode cX5_standing 0 = .ok (.iconst 0, 1) := by decide +kernel
theorem dX5_standing_1 : decode cX5_standing 1 = .ok (.istore_n 1, 1) := by decide +kernel
theorem dX5_standing_2 : decode cX5_standing 2 = .ok (.iconst 0, 1) := by decide +kernel
theorem dX5_standing_3 : decode cX5_standing 3 = .ok (.istore_n 2, 1) := by decide +kernel
theorem dX5_standing_4 : decode cX5_standing 4 = .ok (.iload_n 2, 1) := by decide +kernel
theorem dX5_standing_5 : decode cX5_standing 5 = .ok (.aload_n 0, 1) := by decide +kernel
theorem dX5_standing_6 : decode cX5_standing 6 = .ok (.getfield 58, 3) := by decide +kernel
theorem dX5_standing_9 : decode cX5_standing 9 = .ok (.if_icmp .ge 21, 3) := by decide +kernel
theorem dX5_standing_12 : decode cX5_standing 12 = .ok (.aload_n 0, 1) := by decide +kernel
theorem dX5_standing_13 : decode cX5_standing 13 = .ok (.getfield 30, 3) := by decide +kernel
theorem dX5_standing_16 : decode cX5_standing 16 = .ok (.iload_n 2, 1) := by decide +kernel
theorem dX5_standing_17 : decode cX5_standing 17 = .ok (.baload, 1) := by decide +kernel
theorem dX5_standing_18 : decode cX5_standing 18 = .ok (.ifCond .ne 6, 3) := by decide +kernel
theorem dX5_standing_21 : decode cX5_standing 21 = .ok (.iinc 1 1, 3) := by decide +kernel
theorem dX5_standing_24 : decode cX5_standing 24 = .ok (.iinc 2 1, 3) := by decide +kernel
theorem dX5_standing_27 : decode cX5_standing 27 = .ok (.goto (-23), 3) := by decide +kernel
theorem dX5_standing_30 : decode cX5_standing 30 = .ok (.iload_n 1, 1) := by decide +kernel
theorem dX5_standing_31 : decode cX5_standing 31 = .ok (.ireturn, 1) := by decide +kernel
theorem dX5_remove_0 : decode cX5_remove 0 = .ok (.iconst 0, 1) := by decide +kernel
theorem dX5_remove_1 : decode cX5_remove 1 = .ok (.istore_n 2, 1) := by decide +kernel
theorem dX5_remove_2 : decode cX5_remove 2 = .ok (.iconst 0, 1) := by decide +kernel
theorem dX5_remove_3 : decode cX5_remove 3 = .ok (.istore_n 3, 1) := by decide +kernel
theorem dX5_remove_4 : decode cX5_remove 4 = .ok (.iload_n 3, 1) := by decide +kernel
theorem dX5_remove_5 : decode cX5_remove 5 = .ok (.aload_n 0, 1) := by decide +kernel
theorem dX5_remove_6 : decode cX5_remove 6 = .ok (.getfield 58, 3) := by decide +kernel
theorem dX5_remove_9 : decode cX5_remove 9 = .ok (.if_icmp .ge 55, 3) := by decide +kernel
theorem dX5_remove_12 : decode cX5_remove 12 = .ok (.aload_n 0, 1) := by decide +kernel
theorem dX5_remove_13 : decode cX5_remove 13 = .ok (.getfield 30, 3) := by decide +kernel
theorem dX5_remove_16 : decode cX5_remove 16 = .ok (.iload_n 3, 1) := by decide +kernel
theorem dX5_remove_17 : decode cX5_remove 17 = .ok (.baload, 1) := by decide +kernel
theorem dX5_remove_18 : decode cX5_remove 18 = .ok (.ifCond .ne 40, 3) := by decide +kernel
theorem dX5_remove_21 : decode cX5_remove 21 = .ok (.aload_n 0, 1) := by decide +kernel
theorem dX5_remove_22 : decode cX5_remove 22 = .ok (.getfield 24, 3) := by decide +kernel
theorem dX5_remove_25 : decode cX5_remove 25 = .ok (.iload_n 3, 1) := by decide +kernel
theorem dX5_remove_26 : decode cX5_remove 26 = .ok (.iaload, 1) := by decide +kernel
theorem dX5_remove_27 : decode cX5_remove 27 = .ok (.iload_n 1, 1) := by decide +kernel
theorem dX5_remove_28 : decode cX5_remove 28 = .ok (.if_icmp .ne 30, 3) := by decide +kernel
theorem dX5_remove_31 : decode cX5_remove 31 = .ok (.aload_n 0, 1) := by decide +kernel
theorem dX5_remove_32 : decode cX5_remove 32 = .ok (.getfield 24, 3) := by decide +kernel
theorem dX5_remove_35 : decode cX5_remove 35 = .ok (.iload_n 3, 1) := by decide +kernel
theorem dX5_remove_36 : decode cX5_remove 36 = .ok (.aload_n 0, 1) := by decide +kernel
theorem dX5_remove_37 : decode cX5_remove 37 = .ok (.getfield 24, 3) := by decide +kernel
theorem dX5_remove_40 : decode cX5_remove 40 = .ok (.iload_n 1, 1) := by decide +kernel
theorem dX5_remove_41 : decode cX5_remove 41 = .ok (.iaload, 1) := by decide +kernel
theorem dX5_remove_42 : decode cX5_remove 42 = .ok (.iastore, 1) := by decide +kernel
theorem dX5_remove_43 : decode cX5_remove 43 = .ok (.aload_n 0, 1) := by decide +kernel
theorem dX5_remove_44 : decode cX5_remove 44 = .ok (.getfield 27, 3) := by decide +kernel
theorem dX5_remove_47 : decode cX5_remove 47 = .ok (.iload_n 3, 1) := by decide +kernel
theorem dX5_remove_48 : decode cX5_remove 48 = .ok (.aload_n 0, 1) := by decide +kernel
theorem dX5_remove_49 : decode cX5_remove 49 = .ok (.getfield 27, 3) := by decide +kernel
theorem dX5_remove_52 : decode cX5_remove 52 = .ok (.iload_n 1, 1) := by decide +kernel
theorem dX5_remove_53 : decode cX5_remove 53 = .ok (.iaload, 1) := by decide +kernel
theorem dX5_remove_54 : decode cX5_remove 54 = .ok (.iastore, 1) := by decide +kernel
theorem dX5_remove_55 : decode cX5_remove 55 = .ok (.iinc 2 1, 3) := by decide +kernel
theorem dX5_remove_58 : decode cX5_remove 58 = .ok (.iinc 3 1, 3) := by decide +kernel
theorem dX5_remove_61 : decode cX5_remove 61 = .ok (.goto (-57), 3) := by decide +kernel
theorem dX5_remove_64 : decode cX5_remove 64 = .ok (.aload_n 0, 1) := by decide +kernel
theorem dX5_remove_65 : decode cX5_remove 65 = .ok (.getfield 30, 3) := by decide +kernel
theorem dX5_remove_68 : decode cX5_remove 68 = .ok (.iload_n 1, 1) := by decide +kernel
theorem dX5_remove_69 : decode cX5_remove 69 = .ok (.iconst 1, 1) := by decide +kernel
theorem dX5_remove_70 : decode cX5_remove 70 = .ok (.bastore, 1) := by decide +kernel
theorem dX5_remove_71 : decode cX5_remove 71 = .ok (.iload_n 2, 1) := by decide +kernel
theorem dX5_remove_72 : decode cX5_remove 72 = .ok (.ireturn, 1) := by decide +kernel
theorem dX5_remember_0 : decode cX5_remember 0 = .ok (.aload_n 0, 1) := by decide +kernel
theorem dX5_remember_1 : decode cX5_remember 1 = .ok (.getfield 24, 3) := by decide +kernel
theorem dX5_remember_4 : decode cX5_remember 4 = .ok (.iconst 0, 1) := by decide +kernel
theorem dX5_remember_5 : decode cX5_remember 5 = .ok (.aload_n 0, 1) := by decide +kernel
theorem dX5_remember_6 : decode cX5_remember 6 = .ok (.getfield 55, 3) := by decide +kernel
theorem dX5_remember_9 : decode cX5_remember 9 = .ok (.iconst 0, 1) := by decide +kernel
theorem dX5_remember_10 : decode cX5_remember 10 = .ok (.bipush 10, 2) := by decide +kernel
theorem dX5_remember_12 : decode cX5_remember 12 = .ok (.invokestatic 62, 3) := by decide +kernel
theorem dX5_remember_15 : decode cX5_remember 15 = .ok (.return_, 1) := by decide +kernel
theorem dX5_bringBack_0 : decode cX5_bringBack 0 = .ok (.aload_n 0, 1) := by decide +kernel
theorem dX5_bringBack_1 : decode cX5_bringBack 1 = .ok (.getfield 55, 3) := by decide +kernel
theorem dX5_bringBack_4 : decode cX5_bringBack 4 = .ok (.iconst 0, 1) := by decide +kernel
theorem dX5_bringBack_5 : decode cX5_bringBack 5 = .ok (.aload_n 0, 1) := by decide +kernel
theorem dX5_bringBack_6 : decode cX5_bringBack 6 = .ok (.getfield 24, 3) := by decide +kernel
theorem dX5_bringBack_9 : decode cX5_bringBack 9 = .ok (.iconst 0, 1) := by decide +kernel
theorem dX5_bringBack_10 : decode cX5_bringBack 10 = .ok (.bipush 10, 2) := by decide +kernel
theorem dX5_bringBack_12 : decode cX5_bringBack 12 = .ok (.invokestatic 62, 3) := by decide +kernel
theorem dX5_bringBack_15 : decode cX5_bringBack 15 = .ok (.aload_n 0, 1) := by decide +kernel
theorem dX5_bringBack_16 : decode cX5_bringBack 16 = .ok (.getfield 30, 3) := by decide +kernel
theorem dX5_bringBack_19 : decode cX5_bringBack 19 = .ok (.iload_n 1, 1) := by decide +kernel
theorem dX5_bringBack_20 : decode cX5_bringBack 20 = .ok (.iconst 0, 1) := by decide +kernel
theorem dX5_bringBack_21 : decode cX5_bringBack 21 = .ok (.bastore, 1) := by decide +kernel
theorem dX5_bringBack_22 : decode cX5_bringBack 22 = .ok (.return_, 1) := by decide +kernel
theorem dX5_settleChain_0 : decode cX5_settleChain 0 = .ok (.aload_n 0, 1) := by decide +kernel
theorem dX5_settleChain_1 : decode cX5_settleChain 1 = .ok (.getfield 24, 3) := by decide +kernel
theorem dX5_settleChain_4 : decode cX5_settleChain 4 = .ok (.iload_n 1, 1) := by decide +kernel
theorem dX5_settleChain_5 : decode cX5_settleChain 5 = .ok (.iaload, 1) := by decide +kernel
theorem dX5_settleChain_6 : decode cX5_settleChain 6 = .ok (.istore_n 2, 1) := by decide +kernel
theorem dX5_settleChain_7 : decode cX5_settleChain 7 = .ok (.iload_n 2, 1) := by decide +kernel
theorem dX5_settleChain_8 : decode cX5_settleChain 8 = .ok (.ifCond .lt 12, 3) := by decide +kernel
theorem dX5_settleChain_11 : decode cX5_settleChain 11 = .ok (.iload_n 2, 1) := by decide +kernel
theorem dX5_settleChain_12 : decode cX5_settleChain 12 = .ok (.iload_n 1, 1) := by decide +kernel
theorem dX5_settleChain_13 : decode cX5_settleChain 13 = .ok (.if_icmp .ge 7, 3) := by decide +kernel
theorem dX5_settleChain_16 : decode cX5_settleChain 16 = .ok (.iconst 1, 1) := by decide +kernel
theorem dX5_settleChain_17 : decode cX5_settleChain 17 = .ok (.goto 4, 3) := by decide +kernel
theorem dX5_settleChain_20 : decode cX5_settleChain 20 = .ok (.iconst 0, 1) := by decide +kernel
theorem dX5_settleChain_21 : decode cX5_settleChain 21 = .ok (.istore_n 3, 1) := by decide +kernel
theorem dX5_settleChain_22 : decode cX5_settleChain 22 = .ok (.aload_n 0, 1) := by decide +kernel
theorem dX5_settleChain_23 : decode cX5_settleChain 23 = .ok (.getfield 37, 3) := by decide +kernel
theorem dX5_settleChain_26 : decode cX5_settleChain 26 = .ok (.iload_n 1, 1) := by decide +kernel
theorem dX5_settleChain_27 : decode cX5_settleChain 27 = .ok (.iload_n 3, 1) := by decide +kernel
theorem dX5_settleChain_28 : decode cX5_settleChain 28 = .ok (.ifCond .eq 19, 3) := by decide +kernel
theorem dX5_settleChain_31 : decode cX5_settleChain 31 = .ok (.aload_n 0, 1) := by decide +kernel
theorem dX5_settleChain_32 : decode cX5_settleChain 32 = .ok (.getfield 37, 3) := by decide +kernel
theorem dX5_settleChain_35 : decode cX5_settleChain 35 = .ok (.iload_n 2, 1) := by decide +kernel
theorem dX5_settleChain_36 : decode cX5_settleChain 36 = .ok (.iaload, 1) := by decide +kernel
theorem dX5_settleChain_37 : decode cX5_settleChain 37 = .ok (.aload_n 0, 1) := by decide +kernel
theorem dX5_settleChain_38 : decode cX5_settleChain 38 = .ok (.getfield 40, 3) := by decide +kernel
theorem dX5_settleChain_41 : decode cX5_settleChain 41 = .ok (.iload_n 2, 1) := by decide +kernel
theorem dX5_settleChain_42 : decode cX5_settleChain 42 = .ok (.iaload, 1) := by decide +kernel
theorem dX5_settleChain_43 : decode cX5_settleChain 43 = .ok (.iadd, 1) := by decide +kernel
theorem dX5_settleChain_44 : decode cX5_settleChain 44 = .ok (.goto 9, 3) := by decide +kernel
theorem dX5_settleChain_47 : decode cX5_settleChain 47 = .ok (.aload_n 0, 1) := by decide +kernel
theorem dX5_settleChain_48 : decode cX5_settleChain 48 = .ok (.getfield 27, 3) := by decide +kernel
theorem dX5_settleChain_51 : decode cX5_settleChain 51 = .ok (.iload_n 1, 1) := by decide +kernel
theorem dX5_settleChain_52 : decode cX5_settleChain 52 = .ok (.iaload, 1) := by decide +kernel
theorem dX5_settleChain_53 : decode cX5_settleChain 53 = .ok (.iastore, 1) := by decide +kernel
theorem dX5_settleChain_54 : decode cX5_settleChain 54 = .ok (.aload_n 0, 1) := by decide +kernel
theorem dX5_settleChain_55 : decode cX5_settleChain 55 = .ok (.getfield 40, 3) := by decide +kernel
theorem dX5_settleChain_58 : decode cX5_settleChain 58 = .ok (.iload_n 1, 1) := by decide +kernel
theorem dX5_settleChain_59 : decode cX5_settleChain 59 = .ok (.aload_n 0, 1) := by decide +kernel
theorem dX5_settleChain_60 : decode cX5_settleChain 60 = .ok (.getfield 37, 3) := by decide +kernel
theorem dX5_settleChain_63 : decode cX5_settleChain 63 = .ok (.iload_n 1, 1) := by decide +kernel
theorem dX5_settleChain_64 : decode cX5_settleChain 64 = .ok (.iaload, 1) := by decide +kernel
theorem dX5_settleChain_65 : decode cX5_settleChain 65 = .ok (.aload_n 0, 1) := by decide +kernel
theorem dX5_settleChain_66 : decode cX5_settleChain 66 = .ok (.getfield 15, 3) := by decide +kernel
theorem dX5_settleChain_69 : decode cX5_settleChain 69 = .ok (.iload_n 1, 1) := by decide +kernel
theorem dX5_settleChain_70 : decode cX5_settleChain 70 = .ok (.iaload, 1) := by decide +kernel
theorem dX5_settleChain_71 : decode cX5_settleChain 71 = .ok (.invokestatic 68, 3) := by decide +kernel
theorem dX5_settleChain_74 : decode cX5_settleChain 74 = .ok (.aload_n 0, 1) := by decide +kernel
theorem dX5_settleChain_75 : decode cX5_settleChain 75 = .ok (.getfield 37, 3) := by decide +kernel
theorem dX5_settleChain_78 : decode cX5_settleChain 78 = .ok (.iload_n 1, 1) := by decide +kernel
theorem dX5_settleChain_79 : decode cX5_settleChain 79 = .ok (.iaload, 1) := by decide +kernel
theorem dX5_settleChain_80 : decode cX5_settleChain 80 = .ok (.isub, 1) := by decide +kernel
theorem dX5_settleChain_81 : decode cX5_settleChain 81 = .ok (.aload_n 0, 1) := by decide +kernel
theorem dX5_settleChain_82 : decode cX5_settleChain 82 = .ok (.getfield 18, 3) := by decide +kernel
theorem dX5_settleChain_85 : decode cX5_settleChain 85 = .ok (.iload_n 1, 1) := by decide +kernel
theorem dX5_settleChain_86 : decode cX5_settleChain 86 = .ok (.iaload, 1) := by decide +kernel
theorem dX5_settleChain_87 : decode cX5_settleChain 87 = .ok (.iadd, 1) := by decide +kernel
theorem dX5_settleChain_88 : decode cX5_settleChain 88 = .ok (.iastore, 1) := by decide +kernel
theorem dX5_settleChain_89 : decode cX5_settleChain 89 = .ok (.aload_n 0, 1) := by decide +kernel
theorem dX5_settleChain_90 : decode cX5_settleChain 90 = .ok (.getfield 9, 3) := by decide +kernel
theorem dX5_settleChain_93 : decode cX5_settleChain 93 = .ok (.iload_n 1, 1) := by decide +kernel
theorem dX5_settleChain_94 : decode cX5_settleChain 94 = .ok (.iaload, 1) := by decide +kernel
theorem dX5_settleChain_95 : decode cX5_settleChain 95 = .ok (.aload_n 0, 1) := by decide +kernel
theorem dX5_settleChain_96 : decode cX5_settleChain 96 = .ok (.getfield 40, 3) := by decide +kernel
theorem dX5_settleChain_99 : decode cX5_settleChain 99 = .ok (.iload_n 1, 1) := by decide +kernel
theorem dX5_settleChain_100 : decode cX5_settleChain 100 = .ok (.iaload, 1) := by decide +kernel
theorem dX5_settleChain_101 : decode cX5_settleChain 101 = .ok (.invokestatic 74, 3) := by decide +kernel
theorem dX5_settleChain_104 : decode cX5_settleChain 104 = .ok (.istore 4, 2) := by decide +kernel
theorem dX5_settleChain_106 : decode cX5_settleChain 106 = .ok (.aload_n 0, 1) := by decide +kernel
theorem dX5_settleChain_107 : decode cX5_settleChain 107 = .ok (.getfield 34, 3) := by decide +kernel
theorem dX5_settleChain_110 : decode cX5_settleChain 110 = .ok (.iload_n 1, 1) := by decide +kernel
theorem dX5_settleChain_111 : decode cX5_settleChain 111 = .ok (.iconst 1, 1) := by decide +kernel
theorem dX5_settleChain_112 : decode cX5_settleChain 112 = .ok (.iload_n 1, 1) := by decide +kernel
theorem dX5_settleChain_113 : decode cX5_settleChain 113 = .ok (.ishl, 1) := by decide +kernel
theorem dX5_settleChain_114 : decode cX5_settleChain 114 = .ok (.iload_n 3, 1) := by decide +kernel
theorem dX5_settleChain_115 : decode cX5_settleChain 115 = .ok (.ifCond .eq 12, 3) := by decide +kernel
theorem dX5_settleChain_118 : decode cX5_settleChain 118 = .ok (.aload_n 0, 1) := by decide +kernel
theorem dX5_settleChain_119 : decode cX5_settleChain 119 = .ok (.getfield 34, 3) := by decide +kernel
theorem dX5_settleChain_122 : decode cX5_settleChain 122 = .ok (.iload_n 2, 1) := by decide +kernel
theorem dX5_settleChain_123 : decode cX5_settleChain 123 = .ok (.iaload, 1) := by decide +kernel
theorem dX5_settleChain_124 : decode cX5_settleChain 124 = .ok (.goto 4, 3) := by decide +kernel
theorem dX5_settleChain_127 : decode cX5_settleChain 127 = .ok (.iconst 0, 1) := by decide +kernel
theorem dX5_settleChain_128 : decode cX5_settleChain 128 = .ok (.ior, 1) := by decide +kernel
theorem dX5_settleChain_129 : decode cX5_settleChain 129 = .ok (.iastore, 1) := by decide +kernel
theorem dX5_settleChain_130 : decode cX5_settleChain 130 = .ok (.aload_n 0, 1) := by decide +kernel
theorem dX5_settleChain_131 : decode cX5_settleChain 131 = .ok (.getfield 43, 3) := by decide +kernel
theorem dX5_settleChain_134 : decode cX5_settleChain 134 = .ok (.iload_n 1, 1) := by decide +kernel
theorem dX5_settleChain_135 : decode cX5_settleChain 135 = .ok (.iload_n 3, 1) := by decide +kernel
theorem dX5_settleChain_136 : decode cX5_settleChain 136 = .ok (.ifCond .eq 12, 3) := by decide +kernel
theorem dX5_settleChain_139 : decode cX5_settleChain 139 = .ok (.aload_n 0, 1) := by decide +kernel
theorem dX5_settleChain_140 : decode cX5_settleChain 140 = .ok (.getfield 43, 3) := by decide +kernel
theorem dX5_settleChain_143 : decode cX5_settleChain 143 = .ok (.iload_n 2, 1) := by decide +kernel
theorem dX5_settleChain_144 : decode cX5_settleChain 144 = .ok (.iaload, 1) := by decide +kernel
theorem dX5_settleChain_145 : decode cX5_settleChain 145 = .ok (.goto 9, 3) := by decide +kernel
theorem dX5_settleChain_148 : decode cX5_settleChain 148 = .ok (.aload_n 0, 1) := by decide +kernel
theorem dX5_settleChain_149 : decode cX5_settleChain 149 = .ok (.getfield 37, 3) := by decide +kernel
theorem dX5_settleChain_152 : decode cX5_settleChain 152 = .ok (.iload_n 1, 1) := by decide +kernel
theorem dX5_settleChain_153 : decode cX5_settleChain 153 = .ok (.iaload, 1) := by decide +kernel
theorem dX5_settleChain_154 : decode cX5_settleChain 154 = .ok (.iastore, 1) := by decide +kernel
theorem dX5_settleChain_155 : decode cX5_settleChain 155 = .ok (.aload_n 0, 1) := by decide +kernel
theorem dX5_settleChain_156 : decode cX5_settleChain 156 = .ok (.getfield 46, 3) := by decide +kernel
theorem dX5_settleChain_159 : decode cX5_settleChain 159 = .ok (.iload_n 1, 1) := by decide +kernel
theorem dX5_settleChain_160 : decode cX5_settleChain 160 = .ok (.aload_n 0, 1) := by decide +kernel
theorem dX5_settleChain_161 : decode cX5_settleChain 161 = .ok (.getfield 40, 3) := by decide +kernel
theorem dX5_settleChain_164 : decode cX5_settleChain 164 = .ok (.iload_n 1, 1) := by decide +kernel
theorem dX5_settleChain_165 : decode cX5_settleChain 165 = .ok (.iaload, 1) := by decide +kernel
theorem dX5_settleChain_166 : decode cX5_settleChain 166 = .ok (.iload_n 3, 1) := by decide +kernel
theorem dX5_settleChain_167 : decode cX5_settleChain 167 = .ok (.ifCond .eq 12, 3) := by decide +kernel
theorem dX5_settleChain_170 : decode cX5_settleChain 170 = .ok (.aload_n 0, 1) := by decide +kernel
theorem dX5_settleChain_171 : decode cX5_settleChain 171 = .ok (.getfield 46, 3) := by decide +kernel
theorem dX5_settleChain_174 : decode cX5_settleChain 174 = .ok (.iload_n 2, 1) := by decide +kernel
theorem dX5_settleChain_175 : decode cX5_settleChain 175 = .ok (.iaload, 1) := by decide +kernel
theorem dX5_settleChain_176 : decode cX5_settleChain 176 = .ok (.goto 4, 3) := by decide +kernel
theorem dX5_settleChain_179 : decode cX5_settleChain 179 = .ok (.iconst 0, 1) := by decide +kernel
theorem dX5_settleChain_180 : decode cX5_settleChain 180 = .ok (.iadd, 1) := by decide +kernel
theorem dX5_settleChain_181 : decode cX5_settleChain 181 = .ok (.iastore, 1) := by decide +kernel
theorem dX5_settleChain_182 : decode cX5_settleChain 182 = .ok (.aload_n 0, 1) := by decide +kernel
theorem dX5_settleChain_183 : decode cX5_settleChain 183 = .ok (.getfield 49, 3) := by decide +kernel
theorem dX5_settleChain_186 : decode cX5_settleChain 186 = .ok (.iload_n 1, 1) := by decide +kernel
theorem dX5_settleChain_187 : decode cX5_settleChain 187 = .ok (.iload 4, 2) := by decide +kernel
theorem dX5_settleChain_189 : decode cX5_settleChain 189 = .ok (.iload_n 3, 1) := by decide +kernel
theorem dX5_settleChain_190 : decode cX5_settleChain 190 = .ok (.ifCond .eq 12, 3) := by decide +kernel
theorem dX5_settleChain_193 : decode cX5_settleChain 193 = .ok (.aload_n 0, 1) := by decide +kernel
theorem dX5_settleChain_194 : decode cX5_settleChain 194 = .ok (.getfield 49, 3) := by decide +kernel
theorem dX5_settleChain_197 : decode cX5_settleChain 197 = .ok (.iload_n 2, 1) := by decide +kernel
theorem dX5_settleChain_198 : decode cX5_settleChain 198 = .ok (.iaload, 1) := by decide +kernel
theorem dX5_settleChain_199 : decode cX5_settleChain 199 = .ok (.goto 4, 3) := by decide +kernel
theorem dX5_settleChain_202 : decode cX5_settleChain 202 = .ok (.iconst 0, 1) := by decide +kernel
theorem dX5_settleChain_203 : decode cX5_settleChain 203 = .ok (.iadd, 1) := by decide +kernel
theorem dX5_settleChain_204 : decode cX5_settleChain 204 = .ok (.iastore, 1) := by decide +kernel
theorem dX5_settleChain_205 : decode cX5_settleChain 205 = .ok (.return_, 1) := by decide +kernel
theorem dX5_custodyOf_0 : decode cX5_custodyOf 0 = .ok (.iload_n 0, 1) := by decide +kernel
theorem dX5_custodyOf_1 : decode cX5_custodyOf 1 = .ok (.tableswitch 60 0 3 #[31, 37, 60, 45], 31) := by decide +kernel
theorem dX5_custodyOf_32 : decode cX5_custodyOf 32 = .ok (.iload_n 1, 1) := by decide +kernel
theorem dX5_custodyOf_33 : decode cX5_custodyOf 33 = .ok (.iconst 1, 1) := by decide +kernel
theorem dX5_custodyOf_34 : decode cX5_custodyOf 34 = .ok (.iadd, 1) := by decide +kernel
theorem dX5_custodyOf_35 : decode cX5_custodyOf 35 = .ok (.iconst 2, 1) := by decide +kernel
theorem dX5_custodyOf_36 : decode cX5_custodyOf 36 = .ok (.idiv, 1) := by decide +kernel
theorem dX5_custodyOf_37 : decode cX5_custodyOf 37 = .ok (.ireturn, 1) := by decide +kernel
theorem dX5_custodyOf_38 : decode cX5_custodyOf 38 = .ok (.iconst 2, 1) := by decide +kernel
theorem dX5_custodyOf_39 : decode cX5_custodyOf 39 = .ok (.iload_n 1, 1) := by decide +kernel
theorem dX5_custodyOf_40 : decode cX5_custodyOf 40 = .ok (.imul, 1) := by decide +kernel
theorem dX5_custodyOf_41 : decode cX5_custodyOf 41 = .ok (.iconst 2, 1) := by decide +kernel
theorem dX5_custodyOf_42 : decode cX5_custodyOf 42 = .ok (.iadd, 1) := by decide +kernel
theorem dX5_custodyOf_43 : decode cX5_custodyOf 43 = .ok (.iconst 3, 1) := by decide +kernel
theorem dX5_custodyOf_44 : decode cX5_custodyOf 44 = .ok (.idiv, 1) := by decide +kernel
theorem dX5_custodyOf_45 : decode cX5_custodyOf 45 = .ok (.ireturn, 1) := by decide +kernel
theorem dX5_custodyOf_46 : decode cX5_custodyOf 46 = .ok (.iload_n 1, 1) := by decide +kernel
theorem dX5_custodyOf_47 : decode cX5_custodyOf 47 = .ok (.iconst 1, 1) := by decide +kernel
theorem dX5_custodyOf_48 : decode cX5_custodyOf 48 = .ok (.iadd, 1) := by decide +kernel
theorem dX5_custodyOf_49 : decode cX5_custodyOf 49 = .ok (.iconst 2, 1) := by decide +kernel
theorem dX5_custodyOf_50 : decode cX5_custodyOf 50 = .ok (.idiv, 1) := by decide +kernel
theorem dX5_custodyOf_51 : decode cX5_custodyOf 51 = .ok (.bipush 30, 2) := by decide +kernel
theorem dX5_custodyOf_53 : decode cX5_custodyOf 53 = .ok (.invokestatic 77, 3) := by decide +kernel
theorem dX5_custodyOf_56 : decode cX5_custodyOf 56 = .ok (.iload_n 1, 1) := by decide +kernel
theorem dX5_custodyOf_57 : decode cX5_custodyOf 57 = .ok (.invokestatic 82, 3) := by decide +kernel
theorem dX5_custodyOf_60 : decode cX5_custodyOf 60 = .ok (.ireturn, 1) := by decide +kernel
theorem dX5_custodyOf_61 : decode cX5_custodyOf 61 = .ok (.iload_n 1, 1) := by decide +kernel
theorem dX5_custodyOf_62 : decode cX5_custodyOf 62 = .ok (.ireturn, 1) := by decide +kernel
theorem dX5_releaseWith_0 : decode cX5_releaseWith 0 = .ok (.aload_n 0, 1) := by decide +kernel
theorem dX5_releaseWith_1 : decode cX5_releaseWith 1 = .ok (.getfield 49, 3) := by decide +kernel
theorem dX5_releaseWith_4 : decode cX5_releaseWith 4 = .ok (.iload_n 1, 1) := by decide +kernel
theorem dX5_releaseWith_5 : decode cX5_releaseWith 5 = .ok (.iaload, 1) := by decide +kernel
theorem dX5_releaseWith_6 : decode cX5_releaseWith 6 = .ok (.aload_n 0, 1) := by decide +kernel
theorem dX5_releaseWith_7 : decode cX5_releaseWith 7 = .ok (.getfield 52, 3) := by decide +kernel
theorem dX5_releaseWith_10 : decode cX5_releaseWith 10 = .ok (.iload_n 1, 1) := by decide +kernel
theorem dX5_releaseWith_11 : decode cX5_releaseWith 11 = .ok (.iaload, 1) := by decide +kernel
theorem dX5_releaseWith_12 : decode cX5_releaseWith 12 = .ok (.isub, 1) := by decide +kernel
theorem dX5_releaseWith_13 : decode cX5_releaseWith 13 = .ok (.iconst 0, 1) := by decide +kernel
theorem dX5_releaseWith_14 : decode cX5_releaseWith 14 = .ok (.invokestatic 77, 3) := by decide +kernel
theorem dX5_releaseWith_17 : decode cX5_releaseWith 17 = .ok (.istore_n 3, 1) := by decide +kernel
theorem dX5_releaseWith_18 : decode cX5_releaseWith 18 = .ok (.aload_n 0, 1) := by decide +kernel
theorem dX5_releaseWith_19 : decode cX5_releaseWith 19 = .ok (.getfield 46, 3) := by decide +kernel
theorem dX5_releaseWith_22 : decode cX5_releaseWith 22 = .ok (.iload_n 1, 1) := by decide +kernel
theorem dX5_releaseWith_23 : decode cX5_releaseWith 23 = .ok (.iaload, 1) := by decide +kernel
theorem dX5_releaseWith_24 : decode cX5_releaseWith 24 = .ok (.aload_n 0, 1) := by decide +kernel
theorem dX5_releaseWith_25 : decode cX5_releaseWith 25 = .ok (.getfield 52, 3) := by decide +kernel
theorem dX5_releaseWith_28 : decode cX5_releaseWith 28 = .ok (.iload_n 1, 1) := by decide +kernel
theorem dX5_releaseWith_29 : decode cX5_releaseWith 29 = .ok (.iaload, 1) := by decide +kernel
theorem dX5_releaseWith_30 : decode cX5_releaseWith 30 = .ok (.isub, 1) := by decide +kernel
theorem dX5_releaseWith_31 : decode cX5_releaseWith 31 = .ok (.istore 4, 2) := by decide +kernel
theorem dX5_releaseWith_33 : decode cX5_releaseWith 33 = .ok (.aload_n 0, 1) := by decide +kernel
theorem dX5_releaseWith_34 : decode cX5_releaseWith 34 = .ok (.getfield 43, 3) := by decide +kernel
theorem dX5_releaseWith_37 : decode cX5_releaseWith 37 = .ok (.iload_n 1, 1) := by decide +kernel
theorem dX5_releaseWith_38 : decode cX5_releaseWith 38 = .ok (.iaload, 1) := by decide +kernel
theorem dX5_releaseWith_39 : decode cX5_releaseWith 39 = .ok (.iload 4, 2) := by decide +kernel
theorem dX5_releaseWith_41 : decode cX5_releaseWith 41 = .ok (.iload_n 3, 1) := by decide +kernel
theorem dX5_releaseWith_42 : decode cX5_releaseWith 42 = .ok (.iload_n 2, 1) := by decide +kernel
theorem dX5_releaseWith_43 : decode cX5_releaseWith 43 = .ok (.iadd, 1) := by decide +kernel
theorem dX5_releaseWith_44 : decode cX5_releaseWith 44 = .ok (.invokestatic 82, 3) := by decide +kernel
theorem dX5_releaseWith_47 : decode cX5_releaseWith 47 = .ok (.iadd, 1) := by decide +kernel
theorem dX5_releaseWith_48 : decode cX5_releaseWith 48 = .ok (.ireturn, 1) := by decide +kernel
theorem dX5_endOf_0 : decode cX5_endOf 0 = .ok (.aload_n 0, 1) := by decide +kernel
theorem dX5_endOf_1 : decode cX5_endOf 1 = .ok (.getfield 43, 3) := by decide +kernel
theorem dX5_endOf_4 : decode cX5_endOf 4 = .ok (.iload_n 1, 1) := by decide +kernel
theorem dX5_endOf_5 : decode cX5_endOf 5 = .ok (.iaload, 1) := by decide +kernel
theorem dX5_endOf_6 : decode cX5_endOf 6 = .ok (.aload_n 0, 1) := by decide +kernel
theorem dX5_endOf_7 : decode cX5_endOf 7 = .ok (.getfield 46, 3) := by decide +kernel
theorem dX5_endOf_10 : decode cX5_endOf 10 = .ok (.iload_n 1, 1) := by decide +kernel
theorem dX5_endOf_11 : decode cX5_endOf 11 = .ok (.iaload, 1) := by decide +kernel
theorem dX5_endOf_12 : decode cX5_endOf 12 = .ok (.iadd, 1) := by decide +kernel
theorem dX5_endOf_13 : decode cX5_endOf 13 = .ok (.aload_n 0, 1) := by decide +kernel
theorem dX5_endOf_14 : decode cX5_endOf 14 = .ok (.getfield 52, 3) := by decide +kernel
theorem dX5_endOf_17 : decode cX5_endOf 17 = .ok (.iload_n 1, 1) := by decide +kernel
theorem dX5_endOf_18 : decode cX5_endOf 18 = .ok (.iaload, 1) := by decide +kernel
theorem dX5_endOf_19 : decode cX5_endOf 19 = .ok (.isub, 1) := by decide +kernel
theorem dX5_endOf_20 : decode cX5_endOf 20 = .ok (.ireturn, 1) := by decide +kernel
theorem dX6_init_0 : decode cX6_init 0 = .ok (.aload_n 0, 1) := by decide +kernel
theorem dX6_init_1 : decode cX6_init 1 = .ok (.invokespecial 1, 3) := by decide +kernel
theorem dX6_init_4 : decode cX6_init 4 = .ok (.aload_n 0, 1) := by decide +kernel
theorem dX6_init_5 : decode cX6_init 5 = .ok (.new 7, 3) := by decide +kernel
theorem dX6_init_8 : decode cX6_init 8 = .ok (.dup, 1) := by decide +kernel
theorem dX6_init_9 : decode cX6_init 9 = .ok (.invokespecial 9, 3) := by decide +kernel
theorem dX6_init_12 : decode cX6_init 12 = .ok (.putfield 10, 3) := by decide +kernel
theorem dX6_init_15 : decode cX6_init 15 = .ok (.aload_n 0, 1) := by decide +kernel
theorem dX6_init_16 : decode cX6_init 16 = .ok (.new 16, 3) := by decide +kernel
theorem dX6_init_19 : decode cX6_init 19 = .ok (.dup, 1) := by decide +kernel
theorem dX6_init_20 : decode cX6_init 20 = .ok (.invokespecial 18, 3) := by decide +kernel
theorem dX6_init_23 : decode cX6_init 23 = .ok (.putfield 19, 3) := by decide +kernel
theorem dX6_init_26 : decode cX6_init 26 = .ok (.aload_n 0, 1) := by decide +kernel
theorem dX6_init_27 : decode cX6_init 27 = .ok (.new 23, 3) := by decide +kernel
theorem dX6_init_30 : decode cX6_init 30 = .ok (.dup, 1) := by decide +kernel
theorem dX6_init_31 : decode cX6_init 31 = .ok (.invokespecial 25, 3) := by decide +kernel
theorem dX6_init_34 : decode cX6_init 34 = .ok (.putfield 26, 3) := by decide +kernel
theorem dX6_init_37 : decode cX6_init 37 = .ok (.aload_n 0, 1) := by decide +kernel
theorem dX6_init_38 : decode cX6_init 38 = .ok (.new 30, 3) := by decide +kernel
theorem dX6_init_41 : decode cX6_init 41 = .ok (.dup, 1) := by decide +kernel
theorem dX6_init_42 : decode cX6_init 42 = .ok (.invokespecial 32, 3) := by decide +kernel
theorem dX6_init_45 : decode cX6_init 45 = .ok (.putfield 33, 3) := by decide +kernel
theorem dX6_init_48 : decode cX6_init 48 = .ok (.aload_n 0, 1) := by decide +kernel
theorem dX6_init_49 : decode cX6_init 49 = .ok (.new 37, 3) := by decide +kernel
theorem dX6_init_52 : decode cX6_init 52 = .ok (.dup, 1) := by decide +kernel
theorem dX6_init_53 : decode cX6_init 53 = .ok (.invokespecial 39, 3) := by decide +kernel
theorem dX6_init_56 : decode cX6_init 56 = .ok (.putfield 40, 3) := by decide +kernel
theorem dX6_init_59 : decode cX6_init 59 = .ok (.aload_n 0, 1) := by decide +kernel
theorem dX6_init_60 : decode cX6_init 60 = .ok (.new 37, 3) := by decide +kernel
theorem dX6_init_63 : decode cX6_init 63 = .ok (.dup, 1) := by decide +kernel
theorem dX6_init_64 : decode cX6_init 64 = .ok (.invokespecial 39, 3) := by decide +kernel
theorem dX6_init_67 : decode cX6_init 67 = .ok (.putfield 44, 3) := by decide +kernel
theorem dX6_init_70 : decode cX6_init 70 = .ok (.aload_n 0, 1) := by decide +kernel
theorem dX6_init_71 : decode cX6_init 71 = .ok (.new 37, 3) := by decide +kernel
theorem dX6_init_74 : decode cX6_init 74 = .ok (.dup, 1) := by decide +kernel
theorem dX6_init_75 : decode cX6_init 75 = .ok (.invokespecial 39, 3) := by decide +kernel
theorem dX6_init_78 : decode cX6_init 78 = .ok (.putfield 47, 3) := by decide +kernel
theorem dX6_init_81 : decode cX6_init 81 = .ok (.aload_n 0, 1) := by decide +kernel
theorem dX6_init_82 : decode cX6_init 82 = .ok (.new 50, 3) := by decide +kernel
theorem dX6_init_85 : decode cX6_init 85 = .ok (.dup, 1) := by decide +kernel
theorem dX6_init_86 : decode cX6_init 86 = .ok (.invokespecial 52, 3) := by decide +kernel
theorem dX6_init_89 : decode cX6_init 89 = .ok (.putfield 53, 3) := by decide +kernel
theorem dX6_init_92 : decode cX6_init 92 = .ok (.return_, 1) := by decide +kernel
theorem dX6_dayNumber_0 : decode cX6_dayNumber 0 = .ok (.iload_n 1, 1) := by decide +kernel
theorem dX6_dayNumber_1 : decode cX6_dayNumber 1 = .ok (.iload_n 2, 1) := by decide +kernel
theorem dX6_dayNumber_2 : decode cX6_dayNumber 2 = .ok (.iload_n 3, 1) := by decide +kernel
theorem dX6_dayNumber_3 : decode cX6_dayNumber 3 = .ok (.invokestatic 57, 3) := by decide +kernel
theorem dX6_dayNumber_6 : decode cX6_dayNumber 6 = .ok (.iload_n 1, 1) := by decide +kernel
theorem dX6_dayNumber_7 : decode cX6_dayNumber 7 = .ok (.iload_n 2, 1) := by decide +kernel
theorem dX6_dayNumber_8 : decode cX6_dayNumber 8 = .ok (.iload_n 3, 1) := by decide +kernel
theorem dX6_dayNumber_9 : decode cX6_dayNumber 9 = .ok (.invokestatic 61, 3) := by decide +kernel
theorem dX6_dayNumber_12 : decode cX6_dayNumber 12 = .ok (.ireturn, 1) := by decide +kernel
theorem dX6_dayNumberByMonths_0 : decode cX6_dayNumberByMonths 0 = .ok (.iload_n 1, 1) := by decide +kernel
theorem dX6_dayNumberByMonths_1 : decode cX6_dayNumberByMonths 1 = .ok (.iload_n 2, 1) := by decide +kernel
theorem dX6_dayNumberByMonths_2 : decode cX6_dayNumberByMonths 2 = .ok (.iload_n 3, 1) := by decide +kernel
theorem dX6_dayNumberByMonths_3 : decode cX6_dayNumberByMonths 3 = .ok (.invokestatic 57, 3) := by decide +kernel
theorem dX6_dayNumberByMonths_6 : decode cX6_dayNumberByMonths 6 = .ok (.iload_n 1, 1) := by decide +kernel
theorem dX6_dayNumberByMonths_7 : decode cX6_dayNumberByMonths 7 = .ok (.iload_n 2, 1) := by decide +kernel
theorem dX6_dayNumberByMonths_8 : decode cX6_dayNumberByMonths 8 = .ok (.iload_n 3, 1) := by decide +kernel
theorem dX6_dayNumberByMonths_9 : decode cX6_dayNumberByMonths 9 = .ok (.invokestatic 67, 3) := by decide +kernel
theorem dX6_dayNumberByMonths_12 : decode cX6_dayNumberByMonths 12 = .ok (.ireturn, 1) := by decide +kernel
theorem dX6_yearOf_0 : decode cX6_yearOf 0 = .ok (.iload_n 1, 1) := by decide +kernel
theorem dX6_yearOf_1 : decode cX6_yearOf 1 = .ok (.invokestatic 70, 3) := by decide +kernel
theorem dX6_yearOf_4 : decode cX6_yearOf 4 = .ok (.iload_n 1, 1) := by decide +kernel
theorem dX6_yearOf_5 : decode cX6_yearOf 5 = .ok (.invokestatic 74, 3) := by decide +kernel
theorem dX6_yearOf_8 : decode cX6_yearOf 8 = .ok (.ireturn, 1) := by decide +kernel
theorem dX6_monthOf_0 : decode cX6_monthOf 0 = .ok (.iload_n 1, 1) := by decide +kernel
theorem dX6_monthOf_1 : decode cX6_monthOf 1 = .ok (.invokestatic 70, 3) := by decide +kernel
theorem dX6_monthOf_4 : decode cX6_monthOf 4 = .ok (.iload_n 1, 1) := by decide +kernel
theorem dX6_monthOf_5 : decode cX6_monthOf 5 = .ok (.invokestatic 78, 3) := by decide +kernel
theorem dX6_monthOf_8 : decode cX6_monthOf 8 = .ok (.ireturn, 1) := by decide +kernel
theorem dX6_dayOfMonth_0 : decode cX6_dayOfMonth 0 = .ok (.iload_n 1, 1) := by decide +kernel
theorem dX6_dayOfMonth_1 : decode cX6_dayOfMonth 1 = .ok (.invokestatic 70, 3) := by decide +kernel
theorem dX6_dayOfMonth_4 : decode cX6_dayOfMonth 4 = .ok (.iload_n 1, 1) := by decide +kernel
theorem dX6_dayOfMonth_5 : decode cX6_dayOfMonth 5 = .ok (.invokestatic 81, 3) := by decide +kernel
theorem dX6_dayOfMonth_8 : decode cX6_dayOfMonth 8 = .ok (.ireturn, 1) := by decide +kernel
theorem dX6_monthsAfter_0 : decode cX6_monthsAfter 0 = .ok (.iload_n 1, 1) := by decide +kernel
theorem dX6_monthsAfter_1 : decode cX6_monthsAfter 1 = .ok (.invokestatic 70, 3) := by decide +kernel
theorem dX6_monthsAfter_4 : decode cX6_monthsAfter 4 = .ok (.iload_n 2, 1) := by decide +kernel
theorem dX6_monthsAfter_5 : decode cX6_monthsAfter 5 = .ok (.ifCond .lt 9, 3) := by decide +kernel
theorem dX6_monthsAfter_8 : decode cX6_monthsAfter 8 = .ok (.iload_n 2, 1) := by decide +kernel
theorem dX6_monthsAfter_9 : decode cX6_monthsAfter 9 = .ok (.bipush 60, 2) := by decide +kernel
theorem dX6_monthsAfter_11 : decode cX6_monthsAfter 11 = .ok (.if_icmp .le 11, 3) := by decide +kernel
theorem dX6_monthsAfter_14 : decode cX6_monthsAfter 14 = .ok (.new 84, 3) := by decide +kernel
theorem dX6_monthsAfter_17 : decode cX6_monthsAfter 17 = .ok (.dup, 1) := by decide +kernel
theorem dX6_monthsAfter_18 : decode cX6_monthsAfter 18 = .ok (.invokespecial 86, 3) := by decide +kernel
theorem dX6_monthsAfter_21 : decode cX6_monthsAfter 21 = .ok (.athrow, 1) := by decide +kernel
theorem dX6_monthsAfter_22 : decode cX6_monthsAfter 22 = .ok (.iload_n 1, 1) := by decide +kernel
theorem dX6_monthsAfter_23 : decode cX6_monthsAfter 23 = .ok (.iload_n 2, 1) := by decide +kernel
theorem dX6_monthsAfter_24 : decode cX6_monthsAfter 24 = .ok (.invokestatic 87, 3) := by decide +kernel
theorem dX6_monthsAfter_27 : decode cX6_monthsAfter 27 = .ok (.istore_n 3, 1) := by decide +kernel
theorem dX6_monthsAfter_28 : decode cX6_monthsAfter 28 = .ok (.iload_n 3, 1) := by decide +kernel
theorem dX6_monthsAfter_29 : decode cX6_monthsAfter 29 = .ok (.ldc 91, 2) := by decide +kernel
theorem dX6_monthsAfter_31 : decode cX6_monthsAfter 31 = .ok (.if_icmp .le 11, 3) := by decide +kernel
theorem dX6_monthsAfter_34 : decode cX6_monthsAfter 34 = .ok (.new 84, 3) := by decide +kernel
theorem dX6_monthsAfter_37 : decode cX6_monthsAfter 37 = .ok (.dup, 1) := by decide +kernel
theorem dX6_monthsAfter_38 : decode cX6_monthsAfter 38 = .ok (.invokespecial 86, 3) := by decide +kernel
theorem dX6_monthsAfter_41 : decode cX6_monthsAfter 41 = .ok (.athrow, 1) := by decide +kernel
theorem dX6_monthsAfter_42 : decode cX6_monthsAfter 42 = .ok (.iload_n 3, 1) := by decide +kernel
theorem dX6_monthsAfter_43 : decode cX6_monthsAfter 43 = .ok (.ireturn, 1) := by decide +kernel
theorem dX6_today_0 : decode cX6_today 0 = .ok (.aload_n 0, 1) := by decide +kernel
theorem dX6_today_1 : decode cX6_today 1 = .ok (.getfield 92, 3) := by decide +kernel
theorem dX6_today_4 : decode cX6_today 4 = .ok (.ireturn, 1) := by decide +kernel
theorem dX6_advance_0 : decode cX6_advance 0 = .ok (.iload_n 1, 1) := by decide +kernel
theorem dX6_advance_1 : decode cX6_advance 1 = .ok (.iconst 1, 1) := by decide +kernel
theorem dX6_advance_2 : decode cX6_advance 2 = .ok (.if_icmp .lt 10, 3) := by decide +kernel
theorem dX6_advance_5 : decode cX6_advance 5 = .ok (.iload_n 1, 1) := by decide +kernel
theorem dX6_advance_6 : decode cX6_advance 6 = .ok (.sipush 400, 3) := by decide +kernel
theorem dX6_advance_9 : decode cX6_advance 9 = .ok (.if_icmp .le 11, 3) := by decide +kernel
theorem dX6_advance_12 : decode cX6_advance 12 = .ok (.new 84, 3) := by decide +kernel
theorem dX6_advance_15 : decode cX6_advance 15 = .ok (.dup, 1) := by decide +kernel
theorem dX6_advance_16 : decode cX6_advance 16 = .ok (.invokespecial 86, 3) := by decide +kernel
theorem dX6_advance_19 : decode cX6_advance 19 = .ok (.athrow, 1) := by decide +kernel
theorem dX6_advance_20 : decode cX6_advance 20 = .ok (.aload_n 0, 1) := by decide +kernel
theorem dX6_advance_21 : decode cX6_advance 21 = .ok (.getfield 92, 3) := by decide +kernel
theorem dX6_advance_24 : decode cX6_advance 24 = .ok (.iload_n 1, 1) := by decide +kernel
theorem dX6_advance_25 : decode cX6_advance 25 = .ok (.iadd, 1) := by decide +kernel
theorem dX6_advance_26 : decode cX6_advance 26 = .ok (.sipush 14609, 3) := by decide +kernel
theorem dX6_advance_29 : decode cX6_advance 29 = .ok (.if_icmp .le 11, 3) := by decide +kernel
theorem dX6_advance_32 : decode cX6_advance 32 = .ok (.new 96, 3) := by decide +kernel
theorem dX6_advance_35 : decode cX6_advance 35 = .ok (.dup, 1) := by decide +kernel
theorem dX6_advance_36 : decode cX6_advance 36 = .ok (.invokespecial 98, 3) := by decide +kernel
theorem dX6_advance_39 : decode cX6_advance 39 = .ok (.athrow, 1) := by decide +kernel
theorem dX6_advance_40 : decode cX6_advance 40 = .ok (.aload_n 0, 1) := by decide +kernel
theorem dX6_advance_41 : decode cX6_advance 41 = .ok (.getfield 92, 3) := by decide +kernel
theorem dX6_advance_44 : decode cX6_advance 44 = .ok (.iload_n 1, 1) := by decide +kernel
theorem dX6_advance_45 : decode cX6_advance 45 = .ok (.iadd, 1) := by decide +kernel
theorem dX6_advance_46 : decode cX6_advance 46 = .ok (.istore_n 2, 1) := by decide +kernel
theorem dX6_advance_47 : decode cX6_advance 47 = .ok (.aload_n 0, 1) := by decide +kernel
theorem dX6_advance_48 : decode cX6_advance 48 = .ok (.getfield 92, 3) := by decide +kernel
theorem dX6_advance_51 : decode cX6_advance 51 = .ok (.aload_n 0, 1) := by decide +kernel
theorem dX6_advance_52 : decode cX6_advance 52 = .ok (.invokevirtual 99, 3) := by decide +kernel
theorem dX6_advance_55 : decode cX6_advance 55 = .ok (.iload_n 2, 1) := by decide +kernel
theorem dX6_advance_56 : decode cX6_advance 56 = .ok (.invokestatic 103, 3) := by decide +kernel
theorem dX6_advance_59 : decode cX6_advance 59 = .ok (.istore_n 3, 1) := by decide +kernel
theorem dX6_advance_60 : decode cX6_advance 60 = .ok (.iload_n 3, 1) := by decide +kernel
theorem dX6_advance_61 : decode cX6_advance 61 = .ok (.aload_n 0, 1) := by decide +kernel
theorem dX6_advance_62 : decode cX6_advance 62 = .ok (.invokevirtual 106, 3) := by decide +kernel
theorem dX6_advance_65 : decode cX6_advance 65 = .ok (.iload_n 2, 1) := by decide +kernel
theorem dX6_advance_66 : decode cX6_advance 66 = .ok (.invokestatic 103, 3) := by decide +kernel
theorem dX6_advance_69 : decode cX6_advance 69 = .ok (.istore 4, 2) := by decide +kernel
theorem dX6_advance_71 : decode cX6_advance 71 = .ok (.aload_n 0, 1) := by decide +kernel
theorem dX6_advance_72 : decode cX6_advance 72 = .ok (.getfield 40, 3) := by decide +kernel
theorem dX6_advance_75 : decode cX6_advance 75 = .ok (.aload_n 0, 1) := by decide +kernel
theorem dX6_advance_76 : decode cX6_advance 76 = .ok (.getfield 92, 3) := by decide +kernel
theorem dX6_advance_79 : decode cX6_advance 79 = .ok (.iload_n 3, 1) := by decide +kernel
theorem dX6_advance_80 : decode cX6_advance 80 = .ok (.iconst 1, 1) := by decide +kernel
theorem dX6_advance_81 : decode cX6_advance 81 = .ok (.isub, 1) := by decide +kernel
theorem dX6_advance_82 : decode cX6_advance 82 = .ok (.invokevirtual 109, 3) := by decide +kernel
theorem dX6_advance_85 : decode cX6_advance 85 = .ok (.aload_n 0, 1) := by decide +kernel
theorem dX6_advance_86 : decode cX6_advance 86 = .ok (.getfield 44, 3) := by decide +kernel
theorem dX6_advance_89 : decode cX6_advance 89 = .ok (.iload_n 3, 1) := by decide +kernel
theorem dX6_advance_90 : decode cX6_advance 90 = .ok (.iload 4, 2) := by decide +kernel
theorem dX6_advance_92 : decode cX6_advance 92 = .ok (.iconst 1, 1) := by decide +kernel
theorem dX6_advance_93 : decode cX6_advance 93 = .ok (.isub, 1) := by decide +kernel
theorem dX6_advance_94 : decode cX6_advance 94 = .ok (.invokevirtual 109, 3) := by decide +kernel
theorem dX6_advance_97 : decode cX6_advance 97 = .ok (.iload_n 3, 1) := by decide +kernel
theorem dX6_advance_98 : decode cX6_advance 98 = .ok (.aload_n 0, 1) := by decide +kernel
theorem dX6_advance_99 : decode cX6_advance 99 = .ok (.getfield 92, 3) := by decide +kernel
theorem dX6_advance_102 : decode cX6_advance 102 = .ok (.isub, 1) := by decide +kernel
theorem dX6_advance_103 : decode cX6_advance 103 = .ok (.istore 5, 2) := by decide +kernel
theorem dX6_advance_105 : decode cX6_advance 105 = .ok (.aload_n 0, 1) := by decide +kernel
theorem dX6_advance_106 : decode cX6_advance 106 = .ok (.dup, 1) := by decide +kernel
theorem dX6_advance_107 : decode cX6_advance 107 = .ok (.getfield 113, 3) := by decide +kernel
theorem dX6_advance_110 : decode cX6_advance 110 = .ok (.iload 5, 2) := by decide +kernel
theorem dX6_advance_112 : decode cX6_advance 112 = .ok (.iadd, 1) := by decide +kernel
theorem dX6_advance_113 : decode cX6_advance 113 = .ok (.putfield 113, 3) := by decide +kernel
theorem dX6_advance_116 : decode cX6_advance 116 = .ok (.aload_n 0, 1) := by decide +kernel
theorem dX6_advance_117 : decode cX6_advance 117 = .ok (.dup, 1) := by decide +kernel
theorem dX6_advance_118 : decode cX6_advance 118 = .ok (.getfield 116, 3) := by decide +kernel
theorem dX6_advance_121 : decode cX6_advance 121 = .ok (.iload 4, 2) := by decide +kernel
theorem dX6_advance_123 : decode cX6_advance 123 = .ok (.iload_n 3, 1) := by decide +kernel
theorem dX6_advance_124 : decode cX6_advance 124 = .ok (.isub, 1) := by decide +kernel
theorem dX6_advance_125 : decode cX6_advance 125 = .ok (.iadd, 1) := by decide +kernel
theorem dX6_advance_126 : decode cX6_advance 126 = .ok (.putfield 116, 3) := by decide +kernel
theorem dX6_advance_129 : decode cX6_advance 129 = .ok (.aload_n 0, 1) := by decide +kernel
theorem dX6_advance_130 : decode cX6_advance 130 = .ok (.iload_n 2, 1) := by decide +kernel
theorem dX6_advance_131 : decode cX6_advance 131 = .ok (.putfield 92, 3) := by decide +kernel
theorem dX6_advance_134 : decode cX6_advance 134 = .ok (.iload 5, 2) := by decide +kernel
theorem dX6_advance_136 : decode cX6_advance 136 = .ok (.ireturn, 1) := by decide +kernel
theorem dX6_impose_0 : decode cX6_impose 0 = .ok (.iload_n 1, 1) := by decide +kernel
theorem dX6_impose_1 : decode cX6_impose 1 = .ok (.iload_n 2, 1) := by decide +kernel
theorem dX6_impose_2 : decode cX6_impose 2 = .ok (.iload_n 3, 1) := by decide +kernel
theorem dX6_impose_3 : decode cX6_impose 3 = .ok (.invokestatic 119, 3) := by decide +kernel
theorem dX6_impose_6 : decode cX6_impose 6 = .ok (.aload_n 0, 1) := by decide +kernel
theorem dX6_impose_7 : decode cX6_impose 7 = .ok (.invokevirtual 122, 3) := by decide +kernel
theorem dX6_impose_10 : decode cX6_impose 10 = .ok (.aload_n 0, 1) := by decide +kernel
theorem dX6_impose_11 : decode cX6_impose 11 = .ok (.iconst (-1), 1) := by decide +kernel
theorem dX6_impose_12 : decode cX6_impose 12 = .ok (.iload_n 1, 1) := by decide +kernel
theorem dX6_impose_13 : decode cX6_impose 13 = .ok (.iload_n 2, 1) := by decide +kernel
theorem dX6_impose_14 : decode cX6_impose 14 = .ok (.iload_n 3, 1) := by decide +kernel
theorem dX6_impose_15 : decode cX6_impose 15 = .ok (.invokevirtual 125, 3) := by decide +kernel
theorem dX6_impose_18 : decode cX6_impose 18 = .ok (.ireturn, 1) := by decide +kernel
theorem dX6_imposeConsecutive_0 : decode cX6_imposeConsecutive 0 = .ok (.aload_n 0, 1) := by decide +kernel
theorem dX6_imposeConsecutive_1 : decode cX6_imposeConsecutive 1 = .ok (.iload_n 1, 1) := by decide +kernel
theorem dX6_imposeConsecutive_2 : decode cX6_imposeConsecutive 2 = .ok (.invokevirtual 129, 3) := by decide +kernel
theorem dX6_imposeConsecutive_5 : decode cX6_imposeConsecutive 5 = .ok (.iload_n 2, 1) := by decide +kernel
theorem dX6_imposeConsecutive_6 : decode cX6_imposeConsecutive 6 = .ok (.iload_n 3, 1) := by decide +kernel
theorem dX6_imposeConsecutive_7 : decode cX6_imposeConsecutive 7 = .ok (.iload 4, 2) := by decide +kernel
theorem dX6_imposeConsecutive_9 : decode cX6_imposeConsecutive 9 = .ok (.invokestatic 119, 3) := by decide +kernel
theorem dX6_imposeConsecutive_12 : decode cX6_imposeConsecutive 12 = .ok (.aload_n 0, 1) := by decide +kernel
theorem dX6_imposeConsecutive_13 : decode cX6_imposeConsecutive 13 = .ok (.invokevirtual 122, 3) := by decide +kernel
theorem dX6_imposeConsecutive_16 : decode cX6_imposeConsecutive 16 = .ok (.aload_n 0, 1) := by decide +kernel
theorem dX6_imposeConsecutive_17 : decode cX6_imposeConsecutive 17 = .ok (.getfield 10, 3) := by decide +kernel
theorem dX6_imposeConsecutive_20 : decode cX6_imposeConsecutive 20 = .ok (.getfield 132, 3) := by decide +kernel
theorem dX6_imposeConsecutive_23 : decode cX6_imposeConsecutive 23 = .ok (.iload_n 1, 1) := by decide +kernel
theorem dX6_imposeConsecutive_24 : decode cX6_imposeConsecutive 24 = .ok (.baload, 1) := by decide +kernel
theorem dX6_imposeConsecutive_25 : decode cX6_imposeConsecutive 25 = .ok (.ifCond .ne 15, 3) := by decide +kernel
theorem dX6_imposeConsecutive_28 : decode cX6_imposeConsecutive 28 = .ok (.aload_n 0, 1) := by decide +kernel
theorem dX6_imposeConsecutive_29 : decode cX6_imposeConsecutive 29 = .ok (.iload_n 1, 1) := by decide +kernel
theorem dX6_imposeConsecutive_30 : decode cX6_imposeConsecutive 30 = .ok (.invokevirtual 136, 3) := by decide +kernel
theorem dX6_imposeConsecutive_33 : decode cX6_imposeConsecutive 33 = .ok (.aload_n 0, 1) := by decide +kernel
theorem dX6_imposeConsecutive_34 : decode cX6_imposeConsecutive 34 = .ok (.getfield 92, 3) := by decide +kernel
theorem dX6_imposeConsecutive_37 : decode cX6_imposeConsecutive 37 = .ok (.if_icmp .gt 11, 3) := by decide +kernel
theorem dX6_imposeConsecutive_40 : decode cX6_imposeConsecutive 40 = .ok (.new 96, 3) := by decide +kernel
theorem dX6_imposeConsecutive_43 : decode cX6_imposeConsecutive 43 = .ok (.dup, 1) := by decide +kernel
theorem dX6_imposeConsecutive_44 : decode cX6_imposeConsecutive 44 = .ok (.invokespecial 98, 3) := by decide +kernel
theorem dX6_imposeConsecutive_47 : decode cX6_imposeConsecutive 47 = .ok (.athrow, 1) := by decide +kernel
theorem dX6_imposeConsecutive_48 : decode cX6_imposeConsecutive 48 = .ok (.aload_n 0, 1) := by decide +kernel
theorem dX6_imposeConsecutive_49 : decode cX6_imposeConsecutive 49 = .ok (.iload_n 1, 1) := by decide +kernel
theorem dX6_imposeConsecutive_50 : decode cX6_imposeConsecutive 50 = .ok (.iload_n 2, 1) := by decide +kernel
theorem dX6_imposeConsecutive_51 : decode cX6_imposeConsecutive 51 = .ok (.iload_n 3, 1) := by decide +kernel
theorem dX6_imposeConsecutive_52 : decode cX6_imposeConsecutive 52 = .ok (.iload 4, 2) := by decide +kernel
theorem dX6_imposeConsecutive_54 : decode cX6_imposeConsecutive 54 = .ok (.invokevirtual 125, 3) := by decide +kernel
theorem dX6_imposeConsecutive_57 : decode cX6_imposeConsecutive 57 = .ok (.ireturn, 1) := by decide +kernel
theorem dX6_addRemand_0 : decode cX6_addRemand 0 = .ok (.aload_n 0, 1) := by decide +kernel
theorem dX6_addRemand_1 : decode cX6_addRemand 1 = .ok (.iload_n 1, 1) := by decide +kernel
theorem dX6_addRemand_2 : decode cX6_addRemand 2 = .ok (.invokevirtual 129, 3) := by decide +kernel
theorem dX6_addRemand_5 : decode cX6_addRemand 5 = .ok (.iload_n 2, 1) := by decide +kernel
theorem dX6_addRemand_6 : decode cX6_addRemand 6 = .ok (.ifCond .lt 16, 3) := by decide +kernel
theorem dX6_addRemand_9 : decode cX6_addRemand 9 = .ok (.iload_n 3, 1) := by decide +kernel
theorem dX6_addRemand_10 : decode cX6_addRemand 10 = .ok (.iload_n 2, 1) := by decide +kernel
theorem dX6_addRemand_11 : decode cX6_addRemand 11 = .ok (.if_icmp .lt 11, 3) := by decide +kernel
theorem dX6_addRemand_14 : decode cX6_addRemand 14 = .ok (.iload_n 3, 1) := by decide +kernel
theorem dX6_addRemand_15 : decode cX6_addRemand 15 = .ok (.aload_n 0, 1) := by decide +kernel
theorem dX6_addRemand_16 : decode cX6_addRemand 16 = .ok (.getfield 92, 3) := by decide +kernel
theorem dX6_addRemand_19 : decode cX6_addRemand 19 = .ok (.if_icmp .lt 11, 3) := by decide +kernel
theorem dX6_addRemand_22 : decode cX6_addRemand 22 = .ok (.new 84, 3) := by decide +kernel
theorem dX6_addRemand_25 : decode cX6_addRemand 25 = .ok (.dup, 1) := by decide +kernel
theorem dX6_addRemand_26 : decode cX6_addRemand 26 = .ok (.invokespecial 86, 3) := by decide +kernel
theorem dX6_addRemand_29 : decode cX6_addRemand 29 = .ok (.athrow, 1) := by decide +kernel
theorem dX6_addRemand_30 : decode cX6_addRemand 30 = .ok (.aload_n 0, 1) := by decide +kernel
theorem dX6_addRemand_31 : decode cX6_addRemand 31 = .ok (.getfield 10, 3) := by decide +kernel
theorem dX6_addRemand_34 : decode cX6_addRemand 34 = .ok (.getfield 132, 3) := by decide +kernel
theorem dX6_addRemand_37 : decode cX6_addRemand 37 = .ok (.iload_n 1, 1) := by decide +kernel
theorem dX6_addRemand_38 : decode cX6_addRemand 38 = .ok (.baload, 1) := by decide +kernel
theorem dX6_addRemand_39 : decode cX6_addRemand 39 = .ok (.ifCond .ne 31, 3) := by decide +kernel
theorem dX6_addRemand_42 : decode cX6_addRemand 42 = .ok (.aload_n 0, 1) := by decide +kernel
theorem dX6_addRemand_43 : decode cX6_addRemand 43 = .ok (.getfield 10, 3) := by decide +kernel
theorem dX6_addRemand_46 : decode cX6_addRemand 46 = .ok (.getfield 139, 3) := by decide +kernel
theorem dX6_addRemand_49 : decode cX6_addRemand 49 = .ok (.iload_n 1, 1) := by decide +kernel
theorem dX6_addRemand_50 : decode cX6_addRemand 50 = .ok (.iaload, 1) := by decide +kernel
theorem dX6_addRemand_51 : decode cX6_addRemand 51 = .ok (.aload_n 0, 1) := by decide +kernel
theorem dX6_addRemand_52 : decode cX6_addRemand 52 = .ok (.getfield 92, 3) := by decide +kernel
theorem dX6_addRemand_55 : decode cX6_addRemand 55 = .ok (.if_icmp .ne 15, 3) := by decide +kernel
theorem dX6_addRemand_58 : decode cX6_addRemand 58 = .ok (.aload_n 0, 1) := by decide +kernel
theorem dX6_addRemand_59 : decode cX6_addRemand 59 = .ok (.getfield 19, 3) := by decide +kernel
theorem dX6_addRemand_62 : decode cX6_addRemand 62 = .ok (.getfield 143, 3) := by decide +kernel
theorem dX6_addRemand_65 : decode cX6_addRemand 65 = .ok (.bipush 8, 2) := by decide +kernel
theorem dX6_addRemand_67 : decode cX6_addRemand 67 = .ok (.if_icmp .lt 11, 3) := by decide +kernel
theorem dX6_addRemand_70 : decode cX6_addRemand 70 = .ok (.new 96, 3) := by decide +kernel
theorem dX6_addRemand_73 : decode cX6_addRemand 73 = .ok (.dup, 1) := by decide +kernel
theorem dX6_addRemand_74 : decode cX6_addRemand 74 = .ok (.invokespecial 98, 3) := by decide +kernel
theorem dX6_addRemand_77 : decode cX6_addRemand 77 = .ok (.athrow, 1) := by decide +kernel
theorem dX6_addRemand_78 : decode cX6_addRemand 78 = .ok (.aload_n 0, 1) := by decide +kernel
theorem dX6_addRemand_79 : decode cX6_addRemand 79 = .ok (.getfield 19, 3) := by decide +kernel
theorem dX6_addRemand_82 : decode cX6_addRemand 82 = .ok (.iload_n 1, 1) := by decide +kernel
theorem dX6_addRemand_83 : decode cX6_addRemand 83 = .ok (.iload_n 2, 1) := by decide +kernel
theorem dX6_addRemand_84 : decode cX6_addRemand 84 = .ok (.iload_n 3, 1) := by decide +kernel
theorem dX6_addRemand_85 : decode cX6_addRemand 85 = .ok (.invokevirtual 146, 3) := by decide +kernel
theorem dX6_addRemand_88 : decode cX6_addRemand 88 = .ok (.aload_n 0, 1) := by decide +kernel
theorem dX6_addRemand_89 : decode cX6_addRemand 89 = .ok (.invokevirtual 149, 3) := by decide +kernel
theorem dX6_addRemand_92 : decode cX6_addRemand 92 = .ok (.aload_n 0, 1) := by decide +kernel
theorem dX6_addRemand_93 : decode cX6_addRemand 93 = .ok (.getfield 33, 3) := by decide +kernel
theorem dX6_addRemand_96 : decode cX6_addRemand 96 = .ok (.aload_n 0, 1) := by decide +kernel
theorem dX6_addRemand_97 : decode cX6_addRemand 97 = .ok (.invokevirtual 106, 3) := by decide +kernel
theorem dX6_addRemand_100 : decode cX6_addRemand 100 = .ok (.invokevirtual 152, 3) := by decide +kernel
theorem dX6_addRemand_103 : decode cX6_addRemand 103 = .ok (.aload_n 0, 1) := by decide +kernel
theorem dX6_addRemand_104 : decode cX6_addRemand 104 = .ok (.getfield 10, 3) := by decide +kernel
theorem dX6_addRemand_107 : decode cX6_addRemand 107 = .ok (.getfield 155, 3) := by decide +kernel
theorem dX6_addRemand_110 : decode cX6_addRemand 110 = .ok (.iload_n 1, 1) := by decide +kernel
theorem dX6_addRemand_111 : decode cX6_addRemand 111 = .ok (.iaload, 1) := by decide +kernel
theorem dX6_addRemand_112 : decode cX6_addRemand 112 = .ok (.ireturn, 1) := by decide +kernel
theorem dX6_quash_0 : decode cX6_quash 0 = .ok (.aload_n 0, 1) := by decide +kernel
theorem dX6_quash_1 : decode cX6_quash 1 = .ok (.iload_n 1, 1) := by decide +kernel
theorem dX6_quash_2 : decode cX6_quash 2 = .ok (.invokevirtual 158, 3) := by decide +kernel
theorem dX6_quash_5 : decode cX6_quash 5 = .ok (.aload_n 0, 1) := by decide +kernel
theorem dX6_quash_6 : decode cX6_quash 6 = .ok (.getfield 10, 3) := by decide +kernel
theorem dX6_quash_9 : decode cX6_quash 9 = .ok (.iload_n 1, 1) := by decide +kernel
theorem dX6_quash_10 : decode cX6_quash 10 = .ok (.invokevirtual 161, 3) := by decide +kernel
theorem dX6_quash_13 : decode cX6_quash 13 = .ok (.istore_n 2, 1) := by decide +kernel
theorem dX6_quash_14 : decode cX6_quash 14 = .ok (.aload_n 0, 1) := by decide +kernel
theorem dX6_quash_15 : decode cX6_quash 15 = .ok (.invokevirtual 149, 3) := by decide +kernel
theorem dX6_quash_18 : decode cX6_quash 18 = .ok (.aload_n 0, 1) := by decide +kernel
theorem dX6_quash_19 : decode cX6_quash 19 = .ok (.getfield 33, 3) := by decide +kernel
theorem dX6_quash_22 : decode cX6_quash 22 = .ok (.aload_n 0, 1) := by decide +kernel
theorem dX6_quash_23 : decode cX6_quash 23 = .ok (.invokevirtual 106, 3) := by decide +kernel
theorem dX6_quash_26 : decode cX6_quash 26 = .ok (.invokevirtual 152, 3) := by decide +kernel
theorem dX6_quash_29 : decode cX6_quash 29 = .ok (.iload_n 2, 1) := by decide +kernel
theorem dX6_quash_30 : decode cX6_quash 30 = .ok (.ireturn, 1) := by decide +kernel
theorem dX6_award_0 : decode cX6_award 0 = .ok (.iload_n 1, 1) := by decide +kernel
theorem dX6_award_1 : decode cX6_award 1 = .ok (.invokestatic 164, 3) := by decide +kernel
theorem dX6_award_4 : decode cX6_award 4 = .ok (.aload_n 0, 1) := by decide +kernel
theorem dX6_award_5 : decode cX6_award 5 = .ok (.invokevirtual 99, 3) := by decide +kernel
theorem dX6_award_8 : decode cX6_award 8 = .ok (.aload_n 0, 1) := by decide +kernel
theorem dX6_award_9 : decode cX6_award 9 = .ok (.getfield 92, 3) := by decide +kernel
theorem dX6_award_12 : decode cX6_award 12 = .ok (.if_icmp .le 15, 3) := by decide +kernel
theorem dX6_award_15 : decode cX6_award 15 = .ok (.aload_n 0, 1) := by decide +kernel
theorem dX6_award_16 : decode cX6_award 16 = .ok (.getfield 26, 3) := by decide +kernel
theorem dX6_award_19 : decode cX6_award 19 = .ok (.getfield 167, 3) := by decide +kernel
theorem dX6_award_22 : decode cX6_award 22 = .ok (.bipush 8, 2) := by decide +kernel
theorem dX6_award_24 : decode cX6_award 24 = .ok (.if_icmp .lt 11, 3) := by decide +kernel
theorem dX6_award_27 : decode cX6_award 27 = .ok (.new 96, 3) := by decide +kernel
theorem dX6_award_30 : decode cX6_award 30 = .ok (.dup, 1) := by decide +kernel
theorem dX6_award_31 : decode cX6_award 31 = .ok (.invokespecial 98, 3) := by decide +kernel
theorem dX6_award_34 : decode cX6_award 34 = .ok (.athrow, 1) := by decide +kernel
theorem dX6_award_35 : decode cX6_award 35 = .ok (.aload_n 0, 1) := by decide +kernel
theorem dX6_award_36 : decode cX6_award 36 = .ok (.invokevirtual 168, 3) := by decide +kernel
theorem dX6_award_39 : decode cX6_award 39 = .ok (.ifCond .eq 13, 3) := by decide +kernel
theorem dX6_award_42 : decode cX6_award 42 = .ok (.aload_n 0, 1) := by decide +kernel
theorem dX6_award_43 : decode cX6_award 43 = .ok (.getfield 33, 3) := by decide +kernel
theorem dX6_award_46 : decode cX6_award 46 = .ok (.getfield 172, 3) := by decide +kernel
theorem dX6_award_49 : decode cX6_award 49 = .ok (.goto 4, 3) := by decide +kernel
theorem dX6_award_52 : decode cX6_award 52 = .ok (.iconst (-1), 1) := by decide +kernel
theorem dX6_award_53 : decode cX6_award 53 = .ok (.istore_n 2, 1) := by decide +kernel
theorem dX6_award_54 : decode cX6_award 54 = .ok (.aload_n 0, 1) := by decide +kernel
theorem dX6_award_55 : decode cX6_award 55 = .ok (.getfield 26, 3) := by decide +kernel
theorem dX6_award_58 : decode cX6_award 58 = .ok (.iload_n 1, 1) := by decide +kernel
theorem dX6_award_59 : decode cX6_award 59 = .ok (.aload_n 0, 1) := by decide +kernel
theorem dX6_award_60 : decode cX6_award 60 = .ok (.invokevirtual 175, 3) := by decide +kernel
theorem dX6_award_63 : decode cX6_award 63 = .ok (.iload_n 2, 1) := by decide +kernel
theorem dX6_award_64 : decode cX6_award 64 = .ok (.invokevirtual 178, 3) := by decide +kernel
theorem dX6_award_67 : decode cX6_award 67 = .ok (.ireturn, 1) := by decide +kernel
theorem dX6_giveBack_0 : decode cX6_giveBack 0 = .ok (.aload_n 0, 1) := by decide +kernel
theorem dX6_giveBack_1 : decode cX6_giveBack 1 = .ok (.iload_n 1, 1) := by decide +kernel
theorem dX6_giveBack_2 : decode cX6_giveBack 2 = .ok (.invokevirtual 180, 3) := by decide +kernel
theorem dX6_giveBack_5 : decode cX6_giveBack 5 = .ok (.iload_n 2, 1) := by decide +kernel
theorem dX6_giveBack_6 : decode cX6_giveBack 6 = .ok (.iconst 1, 1) := by decide +kernel
theorem dX6_giveBack_7 : decode cX6_giveBack 7 = .ok (.if_icmp .lt 16, 3) := by decide +kernel
theorem dX6_giveBack_10 : decode cX6_giveBack 10 = .ok (.iload_n 2, 1) := by decide +kernel
theorem dX6_giveBack_11 : decode cX6_giveBack 11 = .ok (.aload_n 0, 1) := by decide +kernel
theorem dX6_giveBack_12 : decode cX6_giveBack 12 = .ok (.getfield 26, 3) := by decide +kernel
theorem dX6_giveBack_15 : decode cX6_giveBack 15 = .ok (.getfield 183, 3) := by decide +kernel
theorem dX6_giveBack_18 : decode cX6_giveBack 18 = .ok (.iload_n 1, 1) := by decide +kernel
theorem dX6_giveBack_19 : decode cX6_giveBack 19 = .ok (.iaload, 1) := by decide +kernel
theorem dX6_giveBack_20 : decode cX6_giveBack 20 = .ok (.if_icmp .le 11, 3) := by decide +kernel
theorem dX6_giveBack_23 : decode cX6_giveBack 23 = .ok (.new 84, 3) := by decide +kernel
theorem dX6_giveBack_26 : decode cX6_giveBack 26 = .ok (.dup, 1) := by decide +kernel
theorem dX6_giveBack_27 : decode cX6_giveBack 27 = .ok (.invokespecial 86, 3) := by decide +kernel
theorem dX6_giveBack_30 : decode cX6_giveBack 30 = .ok (.athrow, 1) := by decide +kernel
theorem dX6_giveBack_31 : decode cX6_giveBack 31 = .ok (.aload_n 0, 1) := by decide +kernel
theorem dX6_giveBack_32 : decode cX6_giveBack 32 = .ok (.getfield 26, 3) := by decide +kernel
theorem dX6_giveBack_35 : decode cX6_giveBack 35 = .ok (.getfield 183, 3) := by decide +kernel
theorem dX6_giveBack_38 : decode cX6_giveBack 38 = .ok (.iload_n 1, 1) := by decide +kernel
theorem dX6_giveBack_39 : decode cX6_giveBack 39 = .ok (.dup2, 1) := by decide +kernel
theorem dX6_giveBack_40 : decode cX6_giveBack 40 = .ok (.iaload, 1) := by decide +kernel
theorem dX6_giveBack_41 : decode cX6_giveBack 41 = .ok (.iload_n 2, 1) := by decide +kernel
theorem dX6_giveBack_42 : decode cX6_giveBack 42 = .ok (.isub, 1) := by decide +kernel
theorem dX6_giveBack_43 : decode cX6_giveBack 43 = .ok (.iastore, 1) := by decide +kernel
theorem dX6_giveBack_44 : decode cX6_giveBack 44 = .ok (.aload_n 0, 1) := by decide +kernel
theorem dX6_giveBack_45 : decode cX6_giveBack 45 = .ok (.getfield 26, 3) := by decide +kernel
theorem dX6_giveBack_48 : decode cX6_giveBack 48 = .ok (.getfield 183, 3) := by decide +kernel
theorem dX6_giveBack_51 : decode cX6_giveBack 51 = .ok (.iload_n 1, 1) := by decide +kernel
theorem dX6_giveBack_52 : decode cX6_giveBack 52 = .ok (.iaload, 1) := by decide +kernel
theorem dX6_giveBack_53 : decode cX6_giveBack 53 = .ok (.ireturn, 1) := by decide +kernel
theorem dX6_recall_0 : decode cX6_recall 0 = .ok (.iload_n 1, 1) := by decide +kernel
theorem dX6_recall_1 : decode cX6_recall 1 = .ok (.ifCond .lt 9, 3) := by decide +kernel
theorem dX6_recall_4 : decode cX6_recall 4 = .ok (.iload_n 1, 1) := by decide +kernel
theorem dX6_recall_5 : decode cX6_recall 5 = .ok (.bipush 28, 2) := by decide +kernel
theorem dX6_recall_7 : decode cX6_recall 7 = .ok (.if_icmp .le 11, 3) := by decide +kernel
theorem dX6_recall_10 : decode cX6_recall 10 = .ok (.new 84, 3) := by decide +kernel
theorem dX6_recall_13 : decode cX6_recall 13 = .ok (.dup, 1) := by decide +kernel
theorem dX6_recall_14 : decode cX6_recall 14 = .ok (.invokespecial 86, 3) := by decide +kernel
theorem dX6_recall_17 : decode cX6_recall 17 = .ok (.athrow, 1) := by decide +kernel
theorem dX6_recall_18 : decode cX6_recall 18 = .ok (.aload_n 0, 1) := by decide +kernel
theorem dX6_recall_19 : decode cX6_recall 19 = .ok (.invokevirtual 186, 3) := by decide +kernel
theorem dX6_recall_22 : decode cX6_recall 22 = .ok (.iconst 1, 1) := by decide +kernel
theorem dX6_recall_23 : decode cX6_recall 23 = .ok (.if_icmp .ne 12, 3) := by decide +kernel
theorem dX6_recall_26 : decode cX6_recall 26 = .ok (.aload_n 0, 1) := by decide +kernel
theorem dX6_recall_27 : decode cX6_recall 27 = .ok (.invokevirtual 189, 3) := by decide +kernel
theorem dX6_recall_30 : decode cX6_recall 30 = .ok (.bipush 6, 2) := by decide +kernel
theorem dX6_recall_32 : decode cX6_recall 32 = .ok (.if_icmp .lt 11, 3) := by decide +kernel
theorem dX6_recall_35 : decode cX6_recall 35 = .ok (.new 96, 3) := by decide +kernel
theorem dX6_recall_38 : decode cX6_recall 38 = .ok (.dup, 1) := by decide +kernel
theorem dX6_recall_39 : decode cX6_recall 39 = .ok (.invokespecial 98, 3) := by decide +kernel
theorem dX6_recall_42 : decode cX6_recall 42 = .ok (.athrow, 1) := by decide +kernel
theorem dX6_recall_43 : decode cX6_recall 43 = .ok (.aload_n 0, 1) := by decide +kernel
theorem dX6_recall_44 : decode cX6_recall 44 = .ok (.getfield 33, 3) := by decide +kernel
theorem dX6_recall_47 : decode cX6_recall 47 = .ok (.aload_n 0, 1) := by decide +kernel
theorem dX6_recall_48 : decode cX6_recall 48 = .ok (.getfield 92, 3) := by decide +kernel
theorem dX6_recall_51 : decode cX6_recall 51 = .ok (.iload_n 1, 1) := by decide +kernel
theorem dX6_recall_52 : decode cX6_recall 52 = .ok (.aload_n 0, 1) := by decide +kernel
theorem dX6_recall_53 : decode cX6_recall 53 = .ok (.invokevirtual 106, 3) := by decide +kernel
theorem dX6_recall_56 : decode cX6_recall 56 = .ok (.invokevirtual 192, 3) := by decide +kernel
theorem dX6_recall_59 : decode cX6_recall 59 = .ok (.aload_n 0, 1) := by decide +kernel
theorem dX6_recall_60 : decode cX6_recall 60 = .ok (.invokevirtual 195, 3) := by decide +kernel
theorem dX6_recall_63 : decode cX6_recall 63 = .ok (.ireturn, 1) := by decide +kernel
theorem dX6_termCount_0 : decode cX6_termCount 0 = .ok (.aload_n 0, 1) := by decide +kernel
theorem dX6_termCount_1 : decode cX6_termCount 1 = .ok (.getfield 10, 3) := by decide +kernel
theorem dX6_termCount_4 : decode cX6_termCount 4 = .ok (.getfield 198, 3) := by decide +kernel
theorem dX6_termCount_7 : decode cX6_termCount 7 = .ok (.ireturn, 1) := by decide +kernel
theorem dX6_kindOf_0 : decode cX6_kindOf 0 = .ok (.aload_n 0, 1) := by decide +kernel
theorem dX6_kindOf_1 : decode cX6_kindOf 1 = .ok (.iload_n 1, 1) := by decide +kernel
theorem dX6_kindOf_2 : decode cX6_kindOf 2 = .ok (.invokevirtual 129, 3) := by decide +kernel
theorem dX6_kindOf_5 : decode cX6_kindOf 5 = .ok (.aload_n 0, 1) := by decide +kernel
theorem dX6_kindOf_6 : decode cX6_kindOf 6 = .ok (.getfield 10, 3) := by decide +kernel
theorem dX6_kindOf_9 : decode cX6_kindOf 9 = .ok (.getfield 199, 3) := by decide +kernel
theorem dX6_kindOf_12 : decode cX6_kindOf 12 = .ok (.iload_n 1, 1) := by decide +kernel
theorem dX6_kindOf_13 : decode cX6_kindOf 13 = .ok (.iaload, 1) := by decide +kernel
theorem dX6_kindOf_14 : decode cX6_kindOf 14 = .ok (.ireturn, 1) := by decide +kernel
theorem dX6_isQuashed_0 : decode cX6_isQuashed 0 = .ok (.aload_n 0, 1) := by decide +kernel
theorem dX6_isQuashed_1 : decode cX6_isQuashed 1 = .ok (.iload_n 1, 1) := by decide +kernel
theorem dX6_isQuashed_2 : decode cX6_isQuashed 2 = .ok (.invokevirtual 129, 3) := by decide +kernel
theorem dX6_isQuashed_5 : decode cX6_isQuashed 5 = .ok (.aload_n 0, 1) := by decide +kernel
theorem dX6_isQuashed_6 : decode cX6_isQuashed 6 = .ok (.getfield 10, 3) := by decide +kernel
theorem dX6_isQuashed_9 : decode cX6_isQuashed 9 = .ok (.getfield 132, 3) := by decide +kernel
theorem dX6_isQuashed_12 : decode cX6_isQuashed 12 = .ok (.iload_n 1, 1) := by decide +kernel
theorem dX6_isQuashed_13 : decode cX6_isQuashed 13 = .ok (.baload, 1) := by decide +kernel
theorem dX6_isQuashed_14 : decode cX6_isQuashed 14 = .ok (.ireturn, 1) := by decide +kernel
theorem dX6_parentOf_0 : decode cX6_parentOf 0 = .ok (.aload_n 0, 1) := by decide +kernel
theorem dX6_parentOf_1 : decode cX6_parentOf 1 = .ok (.iload_n 1, 1) := by decide +kernel
theorem dX6_parentOf_2 : decode cX6_parentOf 2 = .ok (.invokevirtual 158, 3) := by decide +kernel
theorem dX6_parentOf_5 : decode cX6_parentOf 5 = .ok (.aload_n 0, 1) := by decide +kernel
theorem dX6_parentOf_6 : decode cX6_parentOf 6 = .ok (.getfield 10, 3) := by decide +kernel
theorem dX6_parentOf_9 : decode cX6_parentOf 9 = .ok (.getfield 202, 3) := by decide +kernel
theorem dX6_parentOf_12 : decode cX6_parentOf 12 = .ok (.iload_n 1, 1) := by decide +kernel
theorem dX6_parentOf_13 : decode cX6_parentOf 13 = .ok (.iaload, 1) := by decide +kernel
theorem dX6_parentOf_14 : decode cX6_parentOf 14 = .ok (.iconst (-1), 1) := by decide +kernel
theorem dX6_parentOf_15 : decode cX6_parentOf 15 = .ok (.if_icmp .ne 11, 3) := by decide +kernel
theorem dX6_parentOf_18 : decode cX6_parentOf 18 = .ok (.new 205, 3) := by decide +kernel
theorem dX6_parentOf_21 : decode cX6_parentOf 21 = .ok (.dup, 1) := by decide +kernel
theorem dX6_parentOf_22 : decode cX6_parentOf 22 = .ok (.invokespecial 207, 3) := by decide +kernel
theorem dX6_parentOf_25 : decode cX6_parentOf 25 = .ok (.athrow, 1) := by decide +kernel
theorem dX6_parentOf_26 : decode cX6_parentOf 26 = .ok (.aload_n 0, 1) := by decide +kernel
theorem dX6_parentOf_27 : decode cX6_parentOf 27 = .ok (.getfield 10, 3) := by decide +kernel
theorem dX6_parentOf_30 : decode cX6_parentOf 30 = .ok (.getfield 202, 3) := by decide +kernel
theorem dX6_parentOf_33 : decode cX6_parentOf 33 = .ok (.iload_n 1, 1) := by decide +kernel
theorem dX6_parentOf_34 : decode cX6_parentOf 34 = .ok (.iaload, 1) := by decide +kernel
theorem dX6_parentOf_35 : decode cX6_parentOf 35 = .ok (.ireturn, 1) := by decide +kernel
theorem dX6_chainLength_0 : decode cX6_chainLength 0 = .ok (.aload_n 0, 1) := by decide +kernel
theorem dX6_chainLength_1 : decode cX6_chainLength 1 = .ok (.iload_n 1, 1) := by decide +kernel
theorem dX6_chainLength_2 : decode cX6_chainLength 2 = .ok (.invokevirtual 158, 3) := by decide +kernel
theorem dX6_chainLength_5 : decode cX6_chainLength 5 = .ok (.aload_n 0, 1) := by decide +kernel
theorem dX6_chainLength_6 : decode cX6_chainLength 6 = .ok (.getfield 10, 3) := by decide +kernel
theorem dX6_chainLength_9 : decode cX6_chainLength 9 = .ok (.getfield 208, 3) := by decide +kernel
theorem dX6_chainLength_12 : decode cX6_chainLength 12 = .ok (.iload_n 1, 1) := by decide +kernel
theorem dX6_chainLength_13 : decode cX6_chainLength 13 = .ok (.iaload, 1) := by decide +kernel
theorem dX6_chainLength_14 : decode cX6_chainLength 14 = .ok (.invokestatic 211, 3) := by decide +kernel
theorem dX6_chainLength_17 : decode cX6_chainLength 17 = .ok (.ireturn, 1) := by decide +kernel
theorem dX6_descendants_0 : decode cX6_descendants 0 = .ok (.aload_n 0, 1) := by decide +kernel
theorem dX6_descendants_1 : decode cX6_descendants 1 = .ok (.iload_n 1, 1) := by decide +kernel
theorem dX6_descendants_2 : decode cX6_descendants 2 = .ok (.invokevirtual 158, 3) := by decide +kernel
theorem dX6_descendants_5 : decode cX6_descendants 5 = .ok (.iconst 0, 1) := by decide +kernel
theorem dX6_descendants_6 : decode cX6_descendants 6 = .ok (.istore_n 2, 1) := by decide +kernel
theorem dX6_descendants_7 : decode cX6_descendants 7 = .ok (.iconst 0, 1) := by decide +kernel
theorem dX6_descendants_8 : decode cX6_descendants 8 = .ok (.istore_n 3, 1) := by decide +kernel
theorem dX6_descendants_9 : decode cX6_descendants 9 = .ok (.iload_n 3, 1) := by decide +kernel
theorem dX6_descendants_10 : decode cX6_descendants 10 = .ok (.aload_n 0, 1) := by decide +kernel
theorem dX6_descendants_11 : decode cX6_descendants 11 = .ok (.getfield 10, 3) := by decide +kernel
theorem dX6_descendants_14 : decode cX6_descendants 14 = .ok (.getfield 198, 3) := by decide +kernel
theorem dX6_descendants_17 : decode cX6_descendants 17 = .ok (.if_icmp .ge 45, 3) := by decide +kernel
theorem dX6_descendants_20 : decode cX6_descendants 20 = .ok (.iload_n 3, 1) := by decide +kernel
theorem dX6_descendants_21 : decode cX6_descendants 21 = .ok (.iload_n 1, 1) := by decide +kernel
theorem dX6_descendants_22 : decode cX6_descendants 22 = .ok (.if_icmp .eq 34, 3) := by decide +kernel
theorem dX6_descendants_25 : decode cX6_descendants 25 = .ok (.aload_n 0, 1) := by decide +kernel
theorem dX6_descendants_26 : decode cX6_descendants 26 = .ok (.getfield 10, 3) := by decide +kernel
theorem dX6_descendants_29 : decode cX6_descendants 29 = .ok (.getfield 132, 3) := by decide +kernel
theorem dX6_descendants_32 : decode cX6_descendants 32 = .ok (.iload_n 3, 1) := by decide +kernel
theorem dX6_descendants_33 : decode cX6_descendants 33 = .ok (.baload, 1) := by decide +kernel
theorem dX6_descendants_34 : decode cX6_descendants 34 = .ok (.ifCond .ne 22, 3) := by decide +kernel
theorem dX6_descendants_37 : decode cX6_descendants 37 = .ok (.aload_n 0, 1) := by decide +kernel
theorem dX6_descendants_38 : decode cX6_descendants 38 = .ok (.getfield 10, 3) := by decide +kernel
theorem dX6_descendants_41 : decode cX6_descendants 41 = .ok (.getfield 208, 3) := by decide +kernel
theorem dX6_descendants_44 : decode cX6_descendants 44 = .ok (.iload_n 3, 1) := by decide +kernel
theorem dX6_descendants_45 : decode cX6_descendants 45 = .ok (.iaload, 1) := by decide +kernel
theorem dX6_descendants_46 : decode cX6_descendants 46 = .ok (.iconst 1, 1) := by decide +kernel
theorem dX6_descendants_47 : decode cX6_descendants 47 = .ok (.iload_n 1, 1) := by decide +kernel
theorem dX6_descendants_48 : decode cX6_descendants 48 = .ok (.ishl, 1) := by decide +kernel
theorem dX6_descendants_49 : decode cX6_descendants 49 = .ok (.iand, 1) := by decide +kernel
theorem dX6_descendants_50 : decode cX6_descendants 50 = .ok (.ifCond .eq 6, 3) := by decide +kernel
theorem dX6_descendants_53 : decode cX6_descendants 53 = .ok (.iinc 2 1, 3) := by decide +kernel
theorem dX6_descendants_56 : decode cX6_descendants 56 = .ok (.iinc 3 1, 3) := by decide +kernel
theorem dX6_descendants_59 : decode cX6_descendants 59 = .ok (.goto (-50), 3) := by decide +kernel
theorem dX6_descendants_62 : decode cX6_descendants 62 = .ok (.iload_n 2, 1) := by decide +kernel
theorem dX6_descendants_63 : decode cX6_descendants 63 = .ok (.ireturn, 1) := by decide +kernel
theorem dX6_start_0 : decode cX6_start 0 = .ok (.aload_n 0, 1) := by decide +kernel
theorem dX6_start_1 : decode cX6_start 1 = .ok (.iload_n 1, 1) := by decide +kernel
theorem dX6_start_2 : decode cX6_start 2 = .ok (.invokevirtual 158, 3) := by decide +kernel
theorem dX6_start_5 : decode cX6_start 5 = .ok (.aload_n 0, 1) := by decide +kernel
theorem dX6_start_6 : decode cX6_start 6 = .ok (.getfield 10, 3) := by decide +kernel
theorem dX6_start_9 : decode cX6_start 9 = .ok (.getfield 216, 3) := by decide +kernel
theorem dX6_start_12 : decode cX6_start 12 = .ok (.iload_n 1, 1) := by decide +kernel
theorem dX6_start_13 : decode cX6_start 13 = .ok (.iaload, 1) := by decide +kernel
theorem dX6_start_14 : decode cX6_start 14 = .ok (.ireturn, 1) := by decide +kernel
theorem dX6_length_0 : decode cX6_length 0 = .ok (.aload_n 0, 1) := by decide +kernel
theorem dX6_length_1 : decode cX6_length 1 = .ok (.iload_n 1, 1) := by decide +kernel
theorem dX6_length_2 : decode cX6_length 2 = .ok (.invokevirtual 158, 3) := by decide +kernel
theorem dX6_length_5 : decode cX6_length 5 = .ok (.aload_n 0, 1) := by decide +kernel
theorem dX6_length_6 : decode cX6_length 6 = .ok (.getfield 10, 3) := by decide +kernel
theorem dX6_length_9 : decode cX6_length 9 = .ok (.getfield 219, 3) := by decide +kernel
theorem dX6_length_12 : decode cX6_length 12 = .ok (.iload_n 1, 1) := by decide +kernel
theorem dX6_length_13 : decode cX6_length 13 = .ok (.iaload, 1) := by decide +kernel
theorem dX6_length_14 : decode cX6_length 14 = .ok (.ireturn, 1) := by decide +kernel
theorem dX6_totalLength_0 : decode cX6_totalLength 0 = .ok (.aload_n 0, 1) := by decide +kernel
theorem dX6_totalLength_1 : decode cX6_totalLength 1 = .ok (.iload_n 1, 1) := by decide +kernel
theorem dX6_totalLength_2 : decode cX6_totalLength 2 = .ok (.invokevirtual 158, 3) := by decide +kernel
theorem dX6_totalLength_5 : decode cX6_totalLength 5 = .ok (.aload_n 0, 1) := by decide +kernel
theorem dX6_totalLength_6 : decode cX6_totalLength 6 = .ok (.getfield 10, 3) := by decide +kernel
theorem dX6_totalLength_9 : decode cX6_totalLength 9 = .ok (.getfield 222, 3) := by decide +kernel
theorem dX6_totalLength_12 : decode cX6_totalLength 12 = .ok (.iload_n 1, 1) := by decide +kernel
theorem dX6_totalLength_13 : decode cX6_totalLength 13 = .ok (.iaload, 1) := by decide +kernel
theorem dX6_totalLength_14 : decode cX6_totalLength 14 = .ok (.ireturn, 1) := by decide +kernel
theorem dX6_custodialPart_0 : decode cX6_custodialPart 0 = .ok (.aload_n 0, 1) := by decide +kernel
theorem dX6_custodialPart_1 : decode cX6_custodialPart 1 = .ok (.iload_n 1, 1) := by decide +kernel
theorem dX6_custodialPart_2 : decode cX6_custodialPart 2 = .ok (.invokevirtual 158, 3) := by decide +kernel
theorem dX6_custodialPart_5 : decode cX6_custodialPart 5 = .ok (.aload_n 0, 1) := by decide +kernel
theorem dX6_custodialPart_6 : decode cX6_custodialPart 6 = .ok (.getfield 10, 3) := by decide +kernel
theorem dX6_custodialPart_9 : decode cX6_custodialPart 9 = .ok (.getfield 225, 3) := by decide +kernel
theorem dX6_custodialPart_12 : decode cX6_custodialPart 12 = .ok (.iload_n 1, 1) := by decide +kernel
theorem dX6_custodialPart_13 : decode cX6_custodialPart 13 = .ok (.iaload, 1) := by decide +kernel
theorem dX6_custodialPart_14 : decode cX6_custodialPart 14 = .ok (.ireturn, 1) := by decide +kernel
theorem dX6_credit_0 : decode cX6_credit 0 = .ok (.aload_n 0, 1) := by decide +kernel
theorem dX6_credit_1 : decode cX6_credit 1 = .ok (.iload_n 1, 1) := by decide +kernel
theorem dX6_credit_2 : decode cX6_credit 2 = .ok (.invokevirtual 158, 3) := by decide +kernel
theorem dX6_credit_5 : decode cX6_credit 5 = .ok (.aload_n 0, 1) := by decide +kernel
theorem dX6_credit_6 : decode cX6_credit 6 = .ok (.getfield 10, 3) := by decide +kernel
theorem dX6_credit_9 : decode cX6_credit 9 = .ok (.getfield 155, 3) := by decide +kernel
theorem dX6_credit_12 : decode cX6_credit 12 = .ok (.iload_n 1, 1) := by decide +kernel
theorem dX6_credit_13 : decode cX6_credit 13 = .ok (.iaload, 1) := by decide +kernel
theorem dX6_credit_14 : decode cX6_credit 14 = .ok (.ireturn, 1) := by decide +kernel
theorem dX6_creditByMerging_0 : decode cX6_creditByMerging 0 = .ok (.aload_n 0, 1) := by decide +kernel
theorem dX6_creditByMerging_1 : decode cX6_creditByMerging 1 = .ok (.iload_n 1, 1) := by decide +kernel
theorem dX6_creditByMerging_2 : decode cX6_creditByMerging 2 = .ok (.invokevirtual 158, 3) := by decide +kernel
theorem dX6_creditByMerging_5 : decode cX6_creditByMerging 5 = .ok (.aload_n 0, 1) := by decide +kernel
theorem dX6_creditByMerging_6 : decode cX6_creditByMerging 6 = .ok (.iload_n 1, 1) := by decide +kernel
theorem dX6_creditByMerging_7 : decode cX6_creditByMerging 7 = .ok (.invokevirtual 228, 3) := by decide +kernel
theorem dX6_creditByMerging_10 : decode cX6_creditByMerging 10 = .ok (.ireturn, 1) := by decide +kernel
theorem dX6_addedDays_0 : decode cX6_addedDays 0 = .ok (.aload_n 0, 1) := by decide +kernel
theorem dX6_addedDays_1 : decode cX6_addedDays 1 = .ok (.iload_n 1, 1) := by decide +kernel
theorem dX6_addedDays_2 : decode cX6_addedDays 2 = .ok (.invokevirtual 158, 3) := by decide +kernel
theorem dX6_addedDays_5 : decode cX6_addedDays 5 = .ok (.aload_n 0, 1) := by decide +kernel
theorem dX6_addedDays_6 : decode cX6_addedDays 6 = .ok (.getfield 26, 3) := by decide +kernel
theorem dX6_addedDays_9 : decode cX6_addedDays 9 = .ok (.aload_n 0, 1) := by decide +kernel
theorem dX6_addedDays_10 : decode cX6_addedDays 10 = .ok (.getfield 10, 3) := by decide +kernel
theorem dX6_addedDays_13 : decode cX6_addedDays 13 = .ok (.getfield 208, 3) := by decide +kernel
theorem dX6_addedDays_16 : decode cX6_addedDays 16 = .ok (.iload_n 1, 1) := by decide +kernel
theorem dX6_addedDays_17 : decode cX6_addedDays 17 = .ok (.iaload, 1) := by decide +kernel
theorem dX6_addedDays_18 : decode cX6_addedDays 18 = .ok (.invokevirtual 231, 3) := by decide +kernel
theorem dX6_addedDays_21 : decode cX6_addedDays 21 = .ok (.ireturn, 1) := by decide +kernel
theorem dX6_releaseDay_0 : decode cX6_releaseDay 0 = .ok (.aload_n 0, 1) := by decide +kernel
theorem dX6_releaseDay_1 : decode cX6_releaseDay 1 = .ok (.iload_n 1, 1) := by decide +kernel
theorem dX6_releaseDay_2 : decode cX6_releaseDay 2 = .ok (.invokevirtual 158, 3) := by decide +kernel
theorem dX6_releaseDay_5 : decode cX6_releaseDay 5 = .ok (.aload_n 0, 1) := by decide +kernel
theorem dX6_releaseDay_6 : decode cX6_releaseDay 6 = .ok (.iload_n 1, 1) := by decide +kernel
theorem dX6_releaseDay_7 : decode cX6_releaseDay 7 = .ok (.invokevirtual 136, 3) := by decide +kernel
theorem dX6_releaseDay_10 : decode cX6_releaseDay 10 = .ok (.ireturn, 1) := by decide +kernel
theorem dX6_releaseDayByServing_0 : decode cX6_releaseDayByServing 0 = .ok (.aload_n 0, 1) := by decide +kernel
theorem dX6_releaseDayByServing_1 : decode cX6_releaseDayByServing 1 = .ok (.iload_n 1, 1) := by decide +kernel
theorem dX6_releaseDayByServing_2 : decode cX6_releaseDayByServing 2 = .ok (.invokevirtual 158, 3) := by decide +kernel
theorem dX6_releaseDayByServing_5 : decode cX6_releaseDayByServing 5 = .ok (.aload_n 0, 1) := by decide +kernel
theorem dX6_releaseDayByServing_6 : decode cX6_releaseDayByServing 6 = .ok (.iload_n 1, 1) := by decide +kernel
theorem dX6_releaseDayByServing_7 : decode cX6_releaseDayByServing 7 = .ok (.invokevirtual 234, 3) := by decide +kernel
theorem dX6_releaseDayByServing_10 : decode cX6_releaseDayByServing 10 = .ok (.ireturn, 1) := by decide +kernel
theorem dX6_endDay_0 : decode cX6_endDay 0 = .ok (.aload_n 0, 1) := by decide +kernel
theorem dX6_endDay_1 : decode cX6_endDay 1 = .ok (.iload_n 1, 1) := by decide +kernel
theorem dX6_endDay_2 : decode cX6_endDay 2 = .ok (.invokevirtual 158, 3) := by decide +kernel
theorem dX6_endDay_5 : decode cX6_endDay 5 = .ok (.aload_n 0, 1) := by decide +kernel
theorem dX6_endDay_6 : decode cX6_endDay 6 = .ok (.getfield 10, 3) := by decide +kernel
theorem dX6_endDay_9 : decode cX6_endDay 9 = .ok (.iload_n 1, 1) := by decide +kernel
theorem dX6_endDay_10 : decode cX6_endDay 10 = .ok (.invokevirtual 237, 3) := by decide +kernel
theorem dX6_endDay_13 : decode cX6_endDay 13 = .ok (.ireturn, 1) := by decide +kernel
theorem dX6_status_0 : decode cX6_status 0 = .ok (.aload_n 0, 1) := by decide +kernel
theorem dX6_status_1 : decode cX6_status 1 = .ok (.invokevirtual 186, 3) := by decide +kernel
theorem dX6_status_4 : decode cX6_status 4 = .ok (.ireturn, 1) := by decide +kernel
theorem dX6_lastRelease_0 : decode cX6_lastRelease 0 = .ok (.aload_n 0, 1) := by decide +kernel
theorem dX6_lastRelease_1 : decode cX6_lastRelease 1 = .ok (.invokevirtual 240, 3) := by decide +kernel
theorem dX6_lastRelease_4 : decode cX6_lastRelease 4 = .ok (.aload_n 0, 1) := by decide +kernel
theorem dX6_lastRelease_5 : decode cX6_lastRelease 5 = .ok (.iconst 0, 1) := by decide +kernel
theorem dX6_lastRelease_6 : decode cX6_lastRelease 6 = .ok (.iconst 0, 1) := by decide +kernel
theorem dX6_lastRelease_7 : decode cX6_lastRelease 7 = .ok (.invokevirtual 243, 3) := by decide +kernel
theorem dX6_lastRelease_10 : decode cX6_lastRelease 10 = .ok (.ireturn, 1) := by decide +kernel
theorem dX6_lastEnd_0 : decode cX6_lastEnd 0 = .ok (.aload_n 0, 1) := by decide +kernel
theorem dX6_lastEnd_1 : decode cX6_lastEnd 1 = .ok (.invokevirtual 240, 3) := by decide +kernel
theorem dX6_lastEnd_4 : decode cX6_lastEnd 4 = .ok (.aload_n 0, 1) := by decide +kernel
theorem dX6_lastEnd_5 : decode cX6_lastEnd 5 = .ok (.invokevirtual 106, 3) := by decide +kernel
theorem dX6_lastEnd_8 : decode cX6_lastEnd 8 = .ok (.ireturn, 1) := by decide +kernel
theorem dX6_decidingTerm_0 : decode cX6_decidingTerm 0 = .ok (.aload_n 0, 1) := by decide +kernel
theorem dX6_decidingTerm_1 : decode cX6_decidingTerm 1 = .ok (.invokevirtual 240, 3) := by decide +kernel
theorem dX6_decidingTerm_4 : decode cX6_decidingTerm 4 = .ok (.iconst (-1), 1) := by decide +kernel
theorem dX6_decidingTerm_5 : decode cX6_decidingTerm 5 = .ok (.istore_n 1, 1) := by decide +kernel
theorem dX6_decidingTerm_6 : decode cX6_decidingTerm 6 = .ok (.iconst (-1), 1) := by decide +kernel
theorem dX6_decidingTerm_7 : decode cX6_decidingTerm 7 = .ok (.istore_n 2, 1) := by decide +kernel
theorem dX6_decidingTerm_8 : decode cX6_decidingTerm 8 = .ok (.iconst 0, 1) := by decide +kernel
theorem dX6_decidingTerm_9 : decode cX6_decidingTerm 9 = .ok (.istore_n 3, 1) := by decide +kernel
theorem dX6_decidingTerm_10 : decode cX6_decidingTerm 10 = .ok (.iload_n 3, 1) := by decide +kernel
theorem dX6_decidingTerm_11 : decode cX6_decidingTerm 11 = .ok (.aload_n 0, 1) := by decide +kernel
theorem dX6_decidingTerm_12 : decode cX6_decidingTerm 12 = .ok (.getfield 10, 3) := by decide +kernel
theorem dX6_decidingTerm_15 : decode cX6_decidingTerm 15 = .ok (.getfield 198, 3) := by decide +kernel
theorem dX6_decidingTerm_18 : decode cX6_decidingTerm 18 = .ok (.if_icmp .ge 38, 3) := by decide +kernel
theorem dX6_decidingTerm_21 : decode cX6_decidingTerm 21 = .ok (.aload_n 0, 1) := by decide +kernel
theorem dX6_decidingTerm_22 : decode cX6_decidingTerm 22 = .ok (.getfield 10, 3) := by decide +kernel
theorem dX6_decidingTerm_25 : decode cX6_decidingTerm 25 = .ok (.getfield 132, 3) := by decide +kernel
theorem dX6_decidingTerm_28 : decode cX6_decidingTerm 28 = .ok (.iload_n 3, 1) := by decide +kernel
theorem dX6_decidingTerm_29 : decode cX6_decidingTerm 29 = .ok (.baload, 1) := by decide +kernel
theorem dX6_decidingTerm_30 : decode cX6_decidingTerm 30 = .ok (.ifCond .ne 20, 3) := by decide +kernel
theorem dX6_decidingTerm_33 : decode cX6_decidingTerm 33 = .ok (.aload_n 0, 1) := by decide +kernel
theorem dX6_decidingTerm_34 : decode cX6_decidingTerm 34 = .ok (.iload_n 3, 1) := by decide +kernel
theorem dX6_decidingTerm_35 : decode cX6_decidingTerm 35 = .ok (.invokevirtual 136, 3) := by decide +kernel
theorem dX6_decidingTerm_38 : decode cX6_decidingTerm 38 = .ok (.iload_n 2, 1) := by decide +kernel
theorem dX6_decidingTerm_39 : decode cX6_decidingTerm 39 = .ok (.if_icmp .le 11, 3) := by decide +kernel
theorem dX6_decidingTerm_42 : decode cX6_decidingTerm 42 = .ok (.aload_n 0, 1) := by decide +kernel
theorem dX6_decidingTerm_43 : decode cX6_decidingTerm 43 = .ok (.iload_n 3, 1) := by decide +kernel
theorem dX6_decidingTerm_44 : decode cX6_decidingTerm 44 = .ok (.invokevirtual 136, 3) := by decide +kernel
theorem dX6_decidingTerm_47 : decode cX6_decidingTerm 47 = .ok (.istore_n 2, 1) := by decide +kernel
theorem dX6_decidingTerm_48 : decode cX6_decidingTerm 48 = .ok (.iload_n 3, 1) := by decide +kernel
theorem dX6_decidingTerm_49 : decode cX6_decidingTerm 49 = .ok (.istore_n 1, 1) := by decide +kernel
theorem dX6_decidingTerm_50 : decode cX6_decidingTerm 50 = .ok (.iinc 3 1, 3) := by decide +kernel
theorem dX6_decidingTerm_53 : decode cX6_decidingTerm 53 = .ok (.goto (-43), 3) := by decide +kernel
theorem dX6_decidingTerm_56 : decode cX6_decidingTerm 56 = .ok (.iload_n 1, 1) := by decide +kernel
theorem dX6_decidingTerm_57 : decode cX6_decidingTerm 57 = .ok (.ireturn, 1) := by decide +kernel
theorem dX6_termByRelease_0 : decode cX6_termByRelease 0 = .ok (.iconst 0, 1) := by decide +kernel
theorem dX6_termByRelease_1 : decode cX6_termByRelease 1 = .ok (.istore_n 2, 1) := by decide +kernel
theorem dX6_termByRelease_2 : decode cX6_termByRelease 2 = .ok (.iload_n 2, 1) := by decide +kernel
theorem dX6_termByRelease_3 : decode cX6_termByRelease 3 = .ok (.aload_n 0, 1) := by decide +kernel
theorem dX6_termByRelease_4 : decode cX6_termByRelease 4 = .ok (.getfield 10, 3) := by decide +kernel
theorem dX6_termByRelease_7 : decode cX6_termByRelease 7 = .ok (.getfield 198, 3) := by decide +kernel
theorem dX6_termByRelease_10 : decode cX6_termByRelease 10 = .ok (.if_icmp .ge 32, 3) := by decide +kernel
theorem dX6_termByRelease_13 : decode cX6_termByRelease 13 = .ok (.aload_n 0, 1) := by decide +kernel
theorem dX6_termByRelease_14 : decode cX6_termByRelease 14 = .ok (.getfield 10, 3) := by decide +kernel
theorem dX6_termByRelease_17 : decode cX6_termByRelease 17 = .ok (.getfield 132, 3) := by decide +kernel
theorem dX6_termByRelease_20 : decode cX6_termByRelease 20 = .ok (.iload_n 2, 1) := by decide +kernel
theorem dX6_termByRelease_21 : decode cX6_termByRelease 21 = .ok (.baload, 1) := by decide +kernel
theorem dX6_termByRelease_22 : decode cX6_termByRelease 22 = .ok (.ifCond .ne 14, 3) := by decide +kernel
theorem dX6_termByRelease_25 : decode cX6_termByRelease 25 = .ok (.aload_n 0, 1) := by decide +kernel
theorem dX6_termByRelease_26 : decode cX6_termByRelease 26 = .ok (.iload_n 2, 1) := by decide +kernel
theorem dX6_termByRelease_27 : decode cX6_termByRelease 27 = .ok (.invokevirtual 246, 3) := by decide +kernel
theorem dX6_termByRelease_30 : decode cX6_termByRelease 30 = .ok (.iload_n 1, 1) := by decide +kernel
theorem dX6_termByRelease_31 : decode cX6_termByRelease 31 = .ok (.if_icmp .ne 5, 3) := by decide +kernel
theorem dX6_termByRelease_34 : decode cX6_termByRelease 34 = .ok (.iload_n 2, 1) := by decide +kernel
theorem dX6_termByRelease_35 : decode cX6_termByRelease 35 = .ok (.ireturn, 1) := by decide +kernel
theorem dX6_termByRelease_36 : decode cX6_termByRelease 36 = .ok (.iinc 2 1, 3) := by decide +kernel
theorem dX6_termByRelease_39 : decode cX6_termByRelease 39 = .ok (.goto (-37), 3) := by decide +kernel
theorem dX6_termByRelease_42 : decode cX6_termByRelease 42 = .ok (.new 249, 3) := by decide +kernel
theorem dX6_termByRelease_45 : decode cX6_termByRelease 45 = .ok (.dup, 1) := by decide +kernel
theorem dX6_termByRelease_46 : decode cX6_termByRelease 46 = .ok (.invokespecial 251, 3) := by decide +kernel
theorem dX6_termByRelease_49 : decode cX6_termByRelease 49 = .ok (.athrow, 1) := by decide +kernel
theorem dX6_daysInCustodyLeft_0 : decode cX6_daysInCustodyLeft 0 = .ok (.aload_n 0, 1) := by decide +kernel
theorem dX6_daysInCustodyLeft_1 : decode cX6_daysInCustodyLeft 1 = .ok (.invokevirtual 99, 3) := by decide +kernel
theorem dX6_daysInCustodyLeft_4 : decode cX6_daysInCustodyLeft 4 = .ok (.aload_n 0, 1) := by decide +kernel
theorem dX6_daysInCustodyLeft_5 : decode cX6_daysInCustodyLeft 5 = .ok (.getfield 92, 3) := by decide +kernel
theorem dX6_daysInCustodyLeft_8 : decode cX6_daysInCustodyLeft 8 = .ok (.isub, 1) := by decide +kernel
theorem dX6_daysInCustodyLeft_9 : decode cX6_daysInCustodyLeft 9 = .ok (.iconst 0, 1) := by decide +kernel
theorem dX6_daysInCustodyLeft_10 : decode cX6_daysInCustodyLeft 10 = .ok (.invokestatic 252, 3) := by decide +kernel
theorem dX6_daysInCustodyLeft_13 : decode cX6_daysInCustodyLeft 13 = .ok (.ireturn, 1) := by decide +kernel
theorem dX6_recallCount_0 : decode cX6_recallCount 0 = .ok (.aload_n 0, 1) := by decide +kernel
theorem dX6_recallCount_1 : decode cX6_recallCount 1 = .ok (.invokevirtual 189, 3) := by decide +kernel
theorem dX6_recallCount_4 : decode cX6_recallCount 4 = .ok (.ireturn, 1) := by decide +kernel
theorem dX6_recallEnd_0 : decode cX6_recallEnd 0 = .ok (.aload_n 0, 1) := by decide +kernel
theorem dX6_recallEnd_1 : decode cX6_recallEnd 1 = .ok (.invokevirtual 168, 3) := by decide +kernel
theorem dX6_recallEnd_4 : decode cX6_recallEnd 4 = .ok (.ifCond .ne 11, 3) := by decide +kernel
theorem dX6_recallEnd_7 : decode cX6_recallEnd 7 = .ok (.new 205, 3) := by decide +kernel
theorem dX6_recallEnd_10 : decode cX6_recallEnd 10 = .ok (.dup, 1) := by decide +kernel
theorem dX6_recallEnd_11 : decode cX6_recallEnd 11 = .ok (.invokespecial 207, 3) := by decide +kernel
theorem dX6_recallEnd_14 : decode cX6_recallEnd 14 = .ok (.athrow, 1) := by decide +kernel
theorem dX6_recallEnd_15 : decode cX6_recallEnd 15 = .ok (.aload_n 0, 1) := by decide +kernel
theorem dX6_recallEnd_16 : decode cX6_recallEnd 16 = .ok (.invokevirtual 195, 3) := by decide +kernel
theorem dX6_recallEnd_19 : decode cX6_recallEnd 19 = .ok (.ireturn, 1) := by decide +kernel
theorem dX6_awardDays_0 : decode cX6_awardDays 0 = .ok (.aload_n 0, 1) := by decide +kernel
theorem dX6_awardDays_1 : decode cX6_awardDays 1 = .ok (.iload_n 1, 1) := by decide +kernel
theorem dX6_awardDays_2 : decode cX6_awardDays 2 = .ok (.invokevirtual 180, 3) := by decide +kernel
theorem dX6_awardDays_5 : decode cX6_awardDays 5 = .ok (.aload_n 0, 1) := by decide +kernel
theorem dX6_awardDays_6 : decode cX6_awardDays 6 = .ok (.getfield 26, 3) := by decide +kernel
theorem dX6_awardDays_9 : decode cX6_awardDays 9 = .ok (.getfield 183, 3) := by decide +kernel
theorem dX6_awardDays_12 : decode cX6_awardDays 12 = .ok (.iload_n 1, 1) := by decide +kernel
theorem dX6_awardDays_13 : decode cX6_awardDays 13 = .ok (.iaload, 1) := by decide +kernel
theorem dX6_awardDays_14 : decode cX6_awardDays 14 = .ok (.ireturn, 1) := by decide +kernel
theorem dX6_concerns_0 : decode cX6_concerns 0 = .ok (.aload_n 0, 1) := by decide +kernel
theorem dX6_concerns_1 : decode cX6_concerns 1 = .ok (.iload_n 1, 1) := by decide +kernel
theorem dX6_concerns_2 : decode cX6_concerns 2 = .ok (.invokevirtual 180, 3) := by decide +kernel
theorem dX6_concerns_5 : decode cX6_concerns 5 = .ok (.aload_n 0, 1) := by decide +kernel
theorem dX6_concerns_6 : decode cX6_concerns 6 = .ok (.iload_n 2, 1) := by decide +kernel
theorem dX6_concerns_7 : decode cX6_concerns 7 = .ok (.invokevirtual 129, 3) := by decide +kernel
theorem dX6_concerns_10 : decode cX6_concerns 10 = .ok (.aload_n 0, 1) := by decide +kernel
theorem dX6_concerns_11 : decode cX6_concerns 11 = .ok (.getfield 26, 3) := by decide +kernel
theorem dX6_concerns_14 : decode cX6_concerns 14 = .ok (.getfield 257, 3) := by decide +kernel
theorem dX6_concerns_17 : decode cX6_concerns 17 = .ok (.iload_n 1, 1) := by decide +kernel
theorem dX6_concerns_18 : decode cX6_concerns 18 = .ok (.iaload, 1) := by decide +kernel
theorem dX6_concerns_19 : decode cX6_concerns 19 = .ok (.iconst 1, 1) := by decide +kernel
theorem dX6_concerns_20 : decode cX6_concerns 20 = .ok (.iload_n 2, 1) := by decide +kernel
theorem dX6_concerns_21 : decode cX6_concerns 21 = .ok (.ishl, 1) := by decide +kernel
theorem dX6_concerns_22 : decode cX6_concerns 22 = .ok (.iand, 1) := by decide +kernel
theorem dX6_concerns_23 : decode cX6_concerns 23 = .ok (.ifCond .eq 7, 3) := by decide +kernel
theorem dX6_concerns_26 : decode cX6_concerns 26 = .ok (.iconst 1, 1) := by decide +kernel
theorem dX6_concerns_27 : decode cX6_concerns 27 = .ok (.goto 4, 3) := by decide +kernel
theorem dX6_concerns_30 : decode cX6_concerns 30 = .ok (.iconst 0, 1) := by decide +kernel
theorem dX6_concerns_31 : decode cX6_concerns 31 = .ok (.ireturn, 1) := by decide +kernel
theorem dX6_lastReleaseWithAward_0 : decode cX6_lastReleaseWithAward 0 = .ok (.iload_n 1, 1) := by decide +kernel
theorem dX6_lastReleaseWithAward_1 : decode cX6_lastReleaseWithAward 1 = .ok (.invokestatic 164, 3) := by decide +kernel
theorem dX6_lastReleaseWithAward_4 : decode cX6_lastReleaseWithAward 4 = .ok (.aload_n 0, 1) := by decide +kernel
theorem dX6_lastReleaseWithAward_5 : decode cX6_lastReleaseWithAward 5 = .ok (.invokevirtual 99, 3) := by decide +kernel
theorem dX6_lastReleaseWithAward_8 : decode cX6_lastReleaseWithAward 8 = .ok (.aload_n 0, 1) := by decide +kernel
theorem dX6_lastReleaseWithAward_9 : decode cX6_lastReleaseWithAward 9 = .ok (.getfield 92, 3) := by decide +kernel
theorem dX6_lastReleaseWithAward_12 : decode cX6_lastReleaseWithAward 12 = .ok (.if_icmp .gt 11, 3) := by decide +kernel
theorem dX6_lastReleaseWithAward_15 : decode cX6_lastReleaseWithAward 15 = .ok (.new 96, 3) := by decide +kernel
theorem dX6_lastReleaseWithAward_18 : decode cX6_lastReleaseWithAward 18 = .ok (.dup, 1) := by decide +kernel
theorem dX6_lastReleaseWithAward_19 : decode cX6_lastReleaseWithAward 19 = .ok (.invokespecial 98, 3) := by decide +kernel
theorem dX6_lastReleaseWithAward_22 : decode cX6_lastReleaseWithAward 22 = .ok (.athrow, 1) := by decide +kernel
theorem dX6_lastReleaseWithAward_23 : decode cX6_lastReleaseWithAward 23 = .ok (.aload_n 0, 1) := by decide +kernel
theorem dX6_lastReleaseWithAward_24 : decode cX6_lastReleaseWithAward 24 = .ok (.aload_n 0, 1) := by decide +kernel
theorem dX6_lastReleaseWithAward_25 : decode cX6_lastReleaseWithAward 25 = .ok (.invokevirtual 175, 3) := by decide +kernel
theorem dX6_lastReleaseWithAward_28 : decode cX6_lastReleaseWithAward 28 = .ok (.iload_n 1, 1) := by decide +kernel
theorem dX6_lastReleaseWithAward_29 : decode cX6_lastReleaseWithAward 29 = .ok (.invokevirtual 243, 3) := by decide +kernel
theorem dX6_lastReleaseWithAward_32 : decode cX6_lastReleaseWithAward 32 = .ok (.ireturn, 1) := by decide +kernel
theorem dX6_lastReleaseWithout_0 : decode cX6_lastReleaseWithout 0 = .ok (.aload_n 0, 1) := by decide +kernel
theorem dX6_lastReleaseWithout_1 : decode cX6_lastReleaseWithout 1 = .ok (.iload_n 1, 1) := by decide +kernel
theorem dX6_lastReleaseWithout_2 : decode cX6_lastReleaseWithout 2 = .ok (.invokevirtual 158, 3) := by decide +kernel
theorem dX6_lastReleaseWithout_5 : decode cX6_lastReleaseWithout 5 = .ok (.aload_n 0, 1) := by decide +kernel
theorem dX6_lastReleaseWithout_6 : decode cX6_lastReleaseWithout 6 = .ok (.getfield 10, 3) := by decide +kernel
theorem dX6_lastReleaseWithout_9 : decode cX6_lastReleaseWithout 9 = .ok (.invokevirtual 260, 3) := by decide +kernel
theorem dX6_lastReleaseWithout_12 : decode cX6_lastReleaseWithout 12 = .ok (.iconst 2, 1) := by decide +kernel
theorem dX6_lastReleaseWithout_13 : decode cX6_lastReleaseWithout 13 = .ok (.if_icmp .ge 11, 3) := by decide +kernel
theorem dX6_lastReleaseWithout_16 : decode cX6_lastReleaseWithout 16 = .ok (.new 205, 3) := by decide +kernel
theorem dX6_lastReleaseWithout_19 : decode cX6_lastReleaseWithout 19 = .ok (.dup, 1) := by decide +kernel
theorem dX6_lastReleaseWithout_20 : decode cX6_lastReleaseWithout 20 = .ok (.invokespecial 207, 3) := by decide +kernel
theorem dX6_lastReleaseWithout_23 : decode cX6_lastReleaseWithout 23 = .ok (.athrow, 1) := by decide +kernel
theorem dX6_lastReleaseWithout_24 : decode cX6_lastReleaseWithout 24 = .ok (.aload_n 0, 1) := by decide +kernel
theorem dX6_lastReleaseWithout_25 : decode cX6_lastReleaseWithout 25 = .ok (.getfield 10, 3) := by decide +kernel
theorem dX6_lastReleaseWithout_28 : decode cX6_lastReleaseWithout 28 = .ok (.invokevirtual 263, 3) := by decide +kernel
theorem dX6_lastReleaseWithout_31 : decode cX6_lastReleaseWithout 31 = .ok (.aload_n 0, 1) := by decide +kernel
theorem dX6_lastReleaseWithout_32 : decode cX6_lastReleaseWithout 32 = .ok (.getfield 10, 3) := by decide +kernel
theorem dX6_lastReleaseWithout_35 : decode cX6_lastReleaseWithout 35 = .ok (.iload_n 1, 1) := by decide +kernel
theorem dX6_lastReleaseWithout_36 : decode cX6_lastReleaseWithout 36 = .ok (.invokevirtual 161, 3) := by decide +kernel
theorem dX6_lastReleaseWithout_39 : decode cX6_lastReleaseWithout 39 = .ok (.pop, 1) := by decide +kernel
theorem dX6_lastReleaseWithout_40 : decode cX6_lastReleaseWithout 40 = .ok (.aload_n 0, 1) := by decide +kernel
theorem dX6_lastReleaseWithout_41 : decode cX6_lastReleaseWithout 41 = .ok (.invokevirtual 149, 3) := by decide +kernel
theorem dX6_lastReleaseWithout_44 : decode cX6_lastReleaseWithout 44 = .ok (.aload_n 0, 1) := by decide +kernel
theorem dX6_lastReleaseWithout_45 : decode cX6_lastReleaseWithout 45 = .ok (.iconst 0, 1) := by decide +kernel
theorem dX6_lastReleaseWithout_46 : decode cX6_lastReleaseWithout 46 = .ok (.iconst 0, 1) := by decide +kernel
theorem dX6_lastReleaseWithout_47 : decode cX6_lastReleaseWithout 47 = .ok (.invokevirtual 243, 3) := by decide +kernel
theorem dX6_lastReleaseWithout_50 : decode cX6_lastReleaseWithout 50 = .ok (.istore_n 2, 1) := by decide +kernel
theorem dX6_lastReleaseWithout_51 : decode cX6_lastReleaseWithout 51 = .ok (.aload_n 0, 1) := by decide +kernel
theorem dX6_lastReleaseWithout_52 : decode cX6_lastReleaseWithout 52 = .ok (.getfield 10, 3) := by decide +kernel
theorem dX6_lastReleaseWithout_55 : decode cX6_lastReleaseWithout 55 = .ok (.iload_n 1, 1) := by decide +kernel
theorem dX6_lastReleaseWithout_56 : decode cX6_lastReleaseWithout 56 = .ok (.invokevirtual 266, 3) := by decide +kernel
theorem dX6_lastReleaseWithout_59 : decode cX6_lastReleaseWithout 59 = .ok (.aload_n 0, 1) := by decide +kernel
theorem dX6_lastReleaseWithout_60 : decode cX6_lastReleaseWithout 60 = .ok (.invokevirtual 149, 3) := by decide +kernel
theorem dX6_lastReleaseWithout_63 : decode cX6_lastReleaseWithout 63 = .ok (.iload_n 2, 1) := by decide +kernel
theorem dX6_lastReleaseWithout_64 : decode cX6_lastReleaseWithout 64 = .ok (.ireturn, 1) := by decide +kernel
theorem dX6_servedDays_0 : decode cX6_servedDays 0 = .ok (.aload_n 0, 1) := by decide +kernel
theorem dX6_servedDays_1 : decode cX6_servedDays 1 = .ok (.getfield 113, 3) := by decide +kernel
theorem dX6_servedDays_4 : decode cX6_servedDays 4 = .ok (.ireturn, 1) := by decide +kernel
theorem dX6_licenceDays_0 : decode cX6_licenceDays 0 = .ok (.aload_n 0, 1) := by decide +kernel
theorem dX6_licenceDays_1 : decode cX6_licenceDays 1 = .ok (.getfield 116, 3) := by decide +kernel
theorem dX6_licenceDays_4 : decode cX6_licenceDays 4 = .ok (.ireturn, 1) := by decide +kernel
theorem dX6_statusOn_0 : decode cX6_statusOn 0 = .ok (.iload_n 1, 1) := by decide +kernel
theorem dX6_statusOn_1 : decode cX6_statusOn 1 = .ok (.ifCond .lt 11, 3) := by decide +kernel
theorem dX6_statusOn_4 : decode cX6_statusOn 4 = .ok (.iload_n 1, 1) := by decide +kernel
theorem dX6_statusOn_5 : decode cX6_statusOn 5 = .ok (.aload_n 0, 1) := by decide +kernel
theorem dX6_statusOn_6 : decode cX6_statusOn 6 = .ok (.getfield 92, 3) := by decide +kernel
theorem dX6_statusOn_9 : decode cX6_statusOn 9 = .ok (.if_icmp .lt 11, 3) := by decide +kernel
theorem dX6_statusOn_12 : decode cX6_statusOn 12 = .ok (.new 84, 3) := by decide +kernel
theorem dX6_statusOn_15 : decode cX6_statusOn 15 = .ok (.dup, 1) := by decide +kernel
theorem dX6_statusOn_16 : decode cX6_statusOn 16 = .ok (.invokespecial 86, 3) := by decide +kernel
theorem dX6_statusOn_19 : decode cX6_statusOn 19 = .ok (.athrow, 1) := by decide +kernel
theorem dX6_statusOn_20 : decode cX6_statusOn 20 = .ok (.aload_n 0, 1) := by decide +kernel
theorem dX6_statusOn_21 : decode cX6_statusOn 21 = .ok (.iload_n 1, 1) := by decide +kernel
theorem dX6_statusOn_22 : decode cX6_statusOn 22 = .ok (.invokevirtual 269, 3) := by decide +kernel
theorem dX6_statusOn_25 : decode cX6_statusOn 25 = .ok (.ireturn, 1) := by decide +kernel
theorem dX6_writeHistory_0 : decode cX6_writeHistory 0 = .ok (.aload_n 0, 1) := by decide +kernel
theorem dX6_writeHistory_1 : decode cX6_writeHistory 1 = .ok (.getfield 53, 3) := by decide +kernel
theorem dX6_writeHistory_4 : decode cX6_writeHistory 4 = .ok (.iconst 0, 1) := by decide +kernel
theorem dX6_writeHistory_5 : decode cX6_writeHistory 5 = .ok (.invokevirtual 272, 3) := by decide +kernel
theorem dX6_writeHistory_8 : decode cX6_writeHistory 8 = .ok (.iconst 0, 1) := by decide +kernel
theorem dX6_writeHistory_9 : decode cX6_writeHistory 9 = .ok (.istore_n 1, 1) := by decide +kernel
theorem dX6_writeHistory_10 : decode cX6_writeHistory 10 = .ok (.iconst 0, 1) := by decide +kernel
theorem dX6_writeHistory_11 : decode cX6_writeHistory 11 = .ok (.istore_n 2, 1) := by decide +kernel
theorem dX6_writeHistory_12 : decode cX6_writeHistory 12 = .ok (.iconst 0, 1) := by decide +kernel
theorem dX6_writeHistory_13 : decode cX6_writeHistory 13 = .ok (.istore_n 3, 1) := by decide +kernel
theorem dX6_writeHistory_14 : decode cX6_writeHistory 14 = .ok (.iload_n 3, 1) := by decide +kernel
theorem dX6_writeHistory_15 : decode cX6_writeHistory 15 = .ok (.aload_n 0, 1) := by decide +kernel
theorem dX6_writeHistory_16 : decode cX6_writeHistory 16 = .ok (.getfield 92, 3) := by decide +kernel
theorem dX6_writeHistory_19 : decode cX6_writeHistory 19 = .ok (.if_icmp .ge 40, 3) := by decide +kernel
theorem dX6_writeHistory_22 : decode cX6_writeHistory 22 = .ok (.aload_n 0, 1) := by decide +kernel
theorem dX6_writeHistory_23 : decode cX6_writeHistory 23 = .ok (.iload_n 3, 1) := by decide +kernel
theorem dX6_writeHistory_24 : decode cX6_writeHistory 24 = .ok (.invokevirtual 269, 3) := by decide +kernel
theorem dX6_writeHistory_27 : decode cX6_writeHistory 27 = .ok (.istore 4, 2) := by decide +kernel
theorem dX6_writeHistory_29 : decode cX6_writeHistory 29 = .ok (.iload 4, 2) := by decide +kernel
theorem dX6_writeHistory_31 : decode cX6_writeHistory 31 = .ok (.iload_n 2, 1) := by decide +kernel
theorem dX6_writeHistory_32 : decode cX6_writeHistory 32 = .ok (.if_icmp .eq 18, 3) := by decide +kernel
theorem dX6_writeHistory_35 : decode cX6_writeHistory 35 = .ok (.iload_n 3, 1) := by decide +kernel
theorem dX6_writeHistory_36 : decode cX6_writeHistory 36 = .ok (.iload_n 1, 1) := by decide +kernel
theorem dX6_writeHistory_37 : decode cX6_writeHistory 37 = .ok (.if_icmp .le 13, 3) := by decide +kernel
theorem dX6_writeHistory_40 : decode cX6_writeHistory 40 = .ok (.aload_n 0, 1) := by decide +kernel
theorem dX6_writeHistory_41 : decode cX6_writeHistory 41 = .ok (.iload_n 2, 1) := by decide +kernel
theorem dX6_writeHistory_42 : decode cX6_writeHistory 42 = .ok (.iload_n 3, 1) := by decide +kernel
theorem dX6_writeHistory_43 : decode cX6_writeHistory 43 = .ok (.iload_n 1, 1) := by decide +kernel
theorem dX6_writeHistory_44 : decode cX6_writeHistory 44 = .ok (.isub, 1) := by decide +kernel
theorem dX6_writeHistory_45 : decode cX6_writeHistory 45 = .ok (.invokevirtual 275, 3) := by decide +kernel
theorem dX6_writeHistory_48 : decode cX6_writeHistory 48 = .ok (.iload_n 3, 1) := by decide +kernel
theorem dX6_writeHistory_49 : decode cX6_writeHistory 49 = .ok (.istore_n 1, 1) := by decide +kernel
theorem dX6_writeHistory_50 : decode cX6_writeHistory 50 = .ok (.iload 4, 2) := by decide +kernel
theorem dX6_writeHistory_52 : decode cX6_writeHistory 52 = .ok (.istore_n 2, 1) := by decide +kernel
theorem dX6_writeHistory_53 : decode cX6_writeHistory 53 = .ok (.iinc 3 1, 3) := by decide +kernel
theorem dX6_writeHistory_56 : decode cX6_writeHistory 56 = .ok (.goto (-42), 3) := by decide +kernel
theorem dX6_writeHistory_59 : decode cX6_writeHistory 59 = .ok (.aload_n 0, 1) := by decide +kernel
theorem dX6_writeHistory_60 : decode cX6_writeHistory 60 = .ok (.getfield 92, 3) := by decide +kernel
theorem dX6_writeHistory_63 : decode cX6_writeHistory 63 = .ok (.ifCond .le 14, 3) := by decide +kernel
theorem dX6_writeHistory_66 : decode cX6_writeHistory 66 = .ok (.aload_n 0, 1) := by decide +kernel
theorem dX6_writeHistory_67 : decode cX6_writeHistory 67 = .ok (.iload_n 2, 1) := by decide +kernel
theorem dX6_writeHistory_68 : decode cX6_writeHistory 68 = .ok (.aload_n 0, 1) := by decide +kernel
theorem dX6_writeHistory_69 : decode cX6_writeHistory 69 = .ok (.getfield 92, 3) := by decide +kernel
theorem dX6_writeHistory_72 : decode cX6_writeHistory 72 = .ok (.iload_n 1, 1) := by decide +kernel
theorem dX6_writeHistory_73 : decode cX6_writeHistory 73 = .ok (.isub, 1) := by decide +kernel
theorem dX6_writeHistory_74 : decode cX6_writeHistory 74 = .ok (.invokevirtual 275, 3) := by decide +kernel
theorem dX6_writeHistory_77 : decode cX6_writeHistory 77 = .ok (.aload_n 0, 1) := by decide +kernel
theorem dX6_writeHistory_78 : decode cX6_writeHistory 78 = .ok (.getfield 53, 3) := by decide +kernel
theorem dX6_writeHistory_81 : decode cX6_writeHistory 81 = .ok (.invokevirtual 278, 3) := by decide +kernel
theorem dX6_writeHistory_84 : decode cX6_writeHistory 84 = .ok (.ireturn, 1) := by decide +kernel
theorem dX6_outputAt_0 : decode cX6_outputAt 0 = .ok (.iload_n 1, 1) := by decide +kernel
theorem dX6_outputAt_1 : decode cX6_outputAt 1 = .ok (.ifCond .lt 14, 3) := by decide +kernel
theorem dX6_outputAt_4 : decode cX6_outputAt 4 = .ok (.iload_n 1, 1) := by decide +kernel
theorem dX6_outputAt_5 : decode cX6_outputAt 5 = .ok (.aload_n 0, 1) := by decide +kernel
theorem dX6_outputAt_6 : decode cX6_outputAt 6 = .ok (.getfield 53, 3) := by decide +kernel
theorem dX6_outputAt_9 : decode cX6_outputAt 9 = .ok (.invokevirtual 278, 3) := by decide +kernel
theorem dX6_outputAt_12 : decode cX6_outputAt 12 = .ok (.if_icmp .lt 11, 3) := by decide +kernel
theorem dX6_outputAt_15 : decode cX6_outputAt 15 = .ok (.new 249, 3) := by decide +kernel
theorem dX6_outputAt_18 : decode cX6_outputAt 18 = .ok (.dup, 1) := by decide +kernel
theorem dX6_outputAt_19 : decode cX6_outputAt 19 = .ok (.invokespecial 251, 3) := by decide +kernel
theorem dX6_outputAt_22 : decode cX6_outputAt 22 = .ok (.athrow, 1) := by decide +kernel
theorem dX6_outputAt_23 : decode cX6_outputAt 23 = .ok (.aload_n 0, 1) := by decide +kernel
theorem dX6_outputAt_24 : decode cX6_outputAt 24 = .ok (.getfield 53, 3) := by decide +kernel
theorem dX6_outputAt_27 : decode cX6_outputAt 27 = .ok (.iload_n 1, 1) := by decide +kernel
theorem dX6_outputAt_28 : decode cX6_outputAt 28 = .ok (.invokevirtual 281, 3) := by decide +kernel
theorem dX6_outputAt_31 : decode cX6_outputAt 31 = .ok (.ireturn, 1) := by decide +kernel
theorem dX6_isConsistent_0 : decode cX6_isConsistent 0 = .ok (.iconst 0, 1) := by decide +kernel
theorem dX6_isConsistent_1 : decode cX6_isConsistent 1 = .ok (.istore_n 1, 1) := by decide +kernel
theorem dX6_isConsistent_2 : decode cX6_isConsistent 2 = .ok (.iload_n 1, 1) := by decide +kernel
theorem dX6_isConsistent_3 : decode cX6_isConsistent 3 = .ok (.aload_n 0, 1) := by decide +kernel
theorem dX6_isConsistent_4 : decode cX6_isConsistent 4 = .ok (.getfield 10, 3) := by decide +kernel
theorem dX6_isConsistent_7 : decode cX6_isConsistent 7 = .ok (.getfield 198, 3) := by decide +kernel
theorem dX6_isConsistent_10 : decode cX6_isConsistent 10 = .ok (.if_icmp .ge 31, 3) := by decide +kernel
theorem dX6_isConsistent_13 : decode cX6_isConsistent 13 = .ok (.aload_n 0, 1) := by decide +kernel
theorem dX6_isConsistent_14 : decode cX6_isConsistent 14 = .ok (.getfield 10, 3) := by decide +kernel
theorem dX6_isConsistent_17 : decode cX6_isConsistent 17 = .ok (.getfield 132, 3) := by decide +kernel
theorem dX6_isConsistent_20 : decode cX6_isConsistent 20 = .ok (.iload_n 1, 1) := by decide +kernel
theorem dX6_isConsistent_21 : decode cX6_isConsistent 21 = .ok (.baload, 1) := by decide +kernel
theorem dX6_isConsistent_22 : decode cX6_isConsistent 22 = .ok (.ifCond .ne 13, 3) := by decide +kernel
theorem dX6_isConsistent_25 : decode cX6_isConsistent 25 = .ok (.aload_n 0, 1) := by decide +kernel
theorem dX6_isConsistent_26 : decode cX6_isConsistent 26 = .ok (.iload_n 1, 1) := by decide +kernel
theorem dX6_isConsistent_27 : decode cX6_isConsistent 27 = .ok (.invokevirtual 285, 3) := by decide +kernel
theorem dX6_isConsistent_30 : decode cX6_isConsistent 30 = .ok (.ifCond .ne 5, 3) := by decide +kernel
theorem dX6_isConsistent_33 : decode cX6_isConsistent 33 = .ok (.iconst 0, 1) := by decide +kernel
theorem dX6_isConsistent_34 : decode cX6_isConsistent 34 = .ok (.ireturn, 1) := by decide +kernel
theorem dX6_isConsistent_35 : decode cX6_isConsistent 35 = .ok (.iinc 1 1, 3) := by decide +kernel
theorem dX6_isConsistent_38 : decode cX6_isConsistent 38 = .ok (.goto (-36), 3) := by decide +kernel
theorem dX6_isConsistent_41 : decode cX6_isConsistent 41 = .ok (.iconst 0, 1) := by decide +kernel
theorem dX6_isConsistent_42 : decode cX6_isConsistent 42 = .ok (.istore_n 1, 1) := by decide +kernel
theorem dX6_isConsistent_43 : decode cX6_isConsistent 43 = .ok (.iconst 0, 1) := by decide +kernel
theorem dX6_isConsistent_44 : decode cX6_isConsistent 44 = .ok (.istore_n 2, 1) := by decide +kernel
theorem dX6_isConsistent_45 : decode cX6_isConsistent 45 = .ok (.iload_n 2, 1) := by decide +kernel
theorem dX6_isConsistent_46 : decode cX6_isConsistent 46 = .ok (.aload_n 0, 1) := by decide +kernel
theorem dX6_isConsistent_47 : decode cX6_isConsistent 47 = .ok (.getfield 92, 3) := by decide +kernel
theorem dX6_isConsistent_50 : decode cX6_isConsistent 50 = .ok (.if_icmp .ge 21, 3) := by decide +kernel
theorem dX6_isConsistent_53 : decode cX6_isConsistent 53 = .ok (.aload_n 0, 1) := by decide +kernel
theorem dX6_isConsistent_54 : decode cX6_isConsistent 54 = .ok (.iload_n 2, 1) := by decide +kernel
theorem dX6_isConsistent_55 : decode cX6_isConsistent 55 = .ok (.invokevirtual 269, 3) := by decide +kernel
theorem dX6_isConsistent_58 : decode cX6_isConsistent 58 = .ok (.iconst 2, 1) := by decide +kernel
theorem dX6_isConsistent_59 : decode cX6_isConsistent 59 = .ok (.if_icmp .ne 6, 3) := by decide +kernel
theorem dX6_isConsistent_62 : decode cX6_isConsistent 62 = .ok (.iinc 1 1, 3) := by decide +kernel
theorem dX6_isConsistent_65 : decode cX6_isConsistent 65 = .ok (.iinc 2 1, 3) := by decide +kernel
theorem dX6_isConsistent_68 : decode cX6_isConsistent 68 = .ok (.goto (-23), 3) := by decide +kernel
theorem dX6_isConsistent_71 : decode cX6_isConsistent 71 = .ok (.iload_n 1, 1) := by decide +kernel
theorem dX6_isConsistent_72 : decode cX6_isConsistent 72 = .ok (.aload_n 0, 1) := by decide +kernel
theorem dX6_isConsistent_73 : decode cX6_isConsistent 73 = .ok (.getfield 113, 3) := by decide +kernel
theorem dX6_isConsistent_76 : decode cX6_isConsistent 76 = .ok (.if_icmp .ne 7, 3) := by decide +kernel
theorem dX6_isConsistent_79 : decode cX6_isConsistent 79 = .ok (.iconst 1, 1) := by decide +kernel
theorem dX6_isConsistent_80 : decode cX6_isConsistent 80 = .ok (.goto 4, 3) := by decide +kernel
theorem dX6_isConsistent_83 : decode cX6_isConsistent 83 = .ok (.iconst 0, 1) := by decide +kernel
theorem dX6_isConsistent_84 : decode cX6_isConsistent 84 = .ok (.ireturn, 1) := by decide +kernel
theorem dX6_checkDate_0 : decode cX6_checkDate 0 = .ok (.iload_n 0, 1) := by decide +kernel
theorem dX6_checkDate_1 : decode cX6_checkDate 1 = .ok (.iload_n 1, 1) := by decide +kernel
theorem dX6_checkDate_2 : decode cX6_checkDate 2 = .ok (.iload_n 2, 1) := by decide +kernel
theorem dX6_checkDate_3 : decode cX6_checkDate 3 = .ok (.invokestatic 289, 3) := by decide +kernel
theorem dX6_checkDate_6 : decode cX6_checkDate 6 = .ok (.ifCond .ne 11, 3) := by decide +kernel
theorem dX6_checkDate_9 : decode cX6_checkDate 9 = .ok (.new 84, 3) := by decide +kernel
theorem dX6_checkDate_12 : decode cX6_checkDate 12 = .ok (.dup, 1) := by decide +kernel
theorem dX6_checkDate_13 : decode cX6_checkDate 13 = .ok (.invokespecial 86, 3) := by decide +kernel
theorem dX6_checkDate_16 : decode cX6_checkDate 16 = .ok (.athrow, 1) := by decide +kernel
theorem dX6_checkDate_17 : decode cX6_checkDate 17 = .ok (.return_, 1) := by decide +kernel
theorem dX6_checkDay_0 : decode cX6_checkDay 0 = .ok (.iload_n 0, 1) := by decide +kernel
theorem dX6_checkDay_1 : decode cX6_checkDay 1 = .ok (.ifCond .lt 9, 3) := by decide +kernel
theorem dX6_checkDay_4 : decode cX6_checkDay 4 = .ok (.iload_n 0, 1) := by decide +kernel
theorem dX6_checkDay_5 : decode cX6_checkDay 5 = .ok (.ldc 91, 2) := by decide +kernel
theorem dX6_checkDay_7 : decode cX6_checkDay 7 = .ok (.if_icmp .le 11, 3) := by decide +kernel
theorem dX6_checkDay_10 : decode cX6_checkDay 10 = .ok (.new 84, 3) := by decide +kernel
theorem dX6_checkDay_13 : decode cX6_checkDay 13 = .ok (.dup, 1) := by decide +kernel
theorem dX6_checkDay_14 : decode cX6_checkDay 14 = .ok (.invokespecial 86, 3) := by decide +kernel
theorem dX6_checkDay_17 : decode cX6_checkDay 17 = .ok (.athrow, 1) := by decide +kernel
theorem dX6_checkDay_18 : decode cX6_checkDay 18 = .ok (.return_, 1) := by decide +kernel
theorem dX6_checkSentence_0 : decode cX6_checkSentence 0 = .ok (.iload_n 0, 1) := by decide +kernel
theorem dX6_checkSentence_1 : decode cX6_checkSentence 1 = .ok (.ifCond .lt 32, 3) := by decide +kernel
theorem dX6_checkSentence_4 : decode cX6_checkSentence 4 = .ok (.iload_n 0, 1) := by decide +kernel
theorem dX6_checkSentence_5 : decode cX6_checkSentence 5 = .ok (.iconst 3, 1) := by decide +kernel
theorem dX6_checkSentence_6 : decode cX6_checkSentence 6 = .ok (.if_icmp .gt 27, 3) := by decide +kernel
theorem dX6_checkSentence_9 : decode cX6_checkSentence 9 = .ok (.iload_n 1, 1) := by decide +kernel
theorem dX6_checkSentence_10 : decode cX6_checkSentence 10 = .ok (.ifCond .lt 23, 3) := by decide +kernel
theorem dX6_checkSentence_13 : decode cX6_checkSentence 13 = .ok (.iload_n 1, 1) := by decide +kernel
theorem dX6_checkSentence_14 : decode cX6_checkSentence 14 = .ok (.bipush 60, 2) := by decide +kernel
theorem dX6_checkSentence_16 : decode cX6_checkSentence 16 = .ok (.if_icmp .gt 17, 3) := by decide +kernel
theorem dX6_checkSentence_19 : decode cX6_checkSentence 19 = .ok (.iload_n 2, 1) := by decide +kernel
theorem dX6_checkSentence_20 : decode cX6_checkSentence 20 = .ok (.ifCond .lt 13, 3) := by decide +kernel
theorem dX6_checkSentence_23 : decode cX6_checkSentence 23 = .ok (.iload_n 2, 1) := by decide +kernel
theorem dX6_checkSentence_24 : decode cX6_checkSentence 24 = .ok (.bipush 99, 2) := by decide +kernel
theorem dX6_checkSentence_26 : decode cX6_checkSentence 26 = .ok (.if_icmp .gt 7, 3) := by decide +kernel
theorem dX6_checkSentence_29 : decode cX6_checkSentence 29 = .ok (.iconst 1, 1) := by decide +kernel
theorem dX6_checkSentence_30 : decode cX6_checkSentence 30 = .ok (.goto 4, 3) := by decide +kernel
theorem dX6_checkSentence_33 : decode cX6_checkSentence 33 = .ok (.iconst 0, 1) := by decide +kernel
theorem dX6_checkSentence_34 : decode cX6_checkSentence 34 = .ok (.istore_n 3, 1) := by decide +kernel
theorem dX6_checkSentence_35 : decode cX6_checkSentence 35 = .ok (.iload_n 3, 1) := by decide +kernel
theorem dX6_checkSentence_36 : decode cX6_checkSentence 36 = .ok (.ifCond .eq 11, 3) := by decide +kernel
theorem dX6_checkSentence_39 : decode cX6_checkSentence 39 = .ok (.iload_n 1, 1) := by decide +kernel
theorem dX6_checkSentence_40 : decode cX6_checkSentence 40 = .ok (.ifCond .ne 15, 3) := by decide +kernel
theorem dX6_checkSentence_43 : decode cX6_checkSentence 43 = .ok (.iload_n 2, 1) := by decide +kernel
theorem dX6_checkSentence_44 : decode cX6_checkSentence 44 = .ok (.ifCond .ne 11, 3) := by decide +kernel
theorem dX6_checkSentence_47 : decode cX6_checkSentence 47 = .ok (.new 84, 3) := by decide +kernel
theorem dX6_checkSentence_50 : decode cX6_checkSentence 50 = .ok (.dup, 1) := by decide +kernel
theorem dX6_checkSentence_51 : decode cX6_checkSentence 51 = .ok (.invokespecial 86, 3) := by decide +kernel
theorem dX6_checkSentence_54 : decode cX6_checkSentence 54 = .ok (.athrow, 1) := by decide +kernel
theorem dX6_checkSentence_55 : decode cX6_checkSentence 55 = .ok (.return_, 1) := by decide +kernel
theorem dX6_checkAwardDays_0 : decode cX6_checkAwardDays 0 = .ok (.iload_n 0, 1) := by decide +kernel
theorem dX6_checkAwardDays_1 : decode cX6_checkAwardDays 1 = .ok (.iconst 1, 1) := by decide +kernel
theorem dX6_checkAwardDays_2 : decode cX6_checkAwardDays 2 = .ok (.if_icmp .lt 9, 3) := by decide +kernel
theorem dX6_checkAwardDays_5 : decode cX6_checkAwardDays 5 = .ok (.iload_n 0, 1) := by decide +kernel
theorem dX6_checkAwardDays_6 : decode cX6_checkAwardDays 6 = .ok (.bipush 42, 2) := by decide +kernel
theorem dX6_checkAwardDays_8 : decode cX6_checkAwardDays 8 = .ok (.if_icmp .le 11, 3) := by decide +kernel
theorem dX6_checkAwardDays_11 : decode cX6_checkAwardDays 11 = .ok (.new 84, 3) := by decide +kernel
theorem dX6_checkAwardDays_14 : decode cX6_checkAwardDays 14 = .ok (.dup, 1) := by decide +kernel
theorem dX6_checkAwardDays_15 : decode cX6_checkAwardDays 15 = .ok (.invokespecial 86, 3) := by decide +kernel
theorem dX6_checkAwardDays_18 : decode cX6_checkAwardDays 18 = .ok (.athrow, 1) := by decide +kernel
theorem dX6_checkAwardDays_19 : decode cX6_checkAwardDays 19 = .ok (.return_, 1) := by decide +kernel
theorem dX6_checkRoomForTerm_0 : decode cX6_checkRoomForTerm 0 = .ok (.aload_n 0, 1) := by decide +kernel
theorem dX6_checkRoomForTerm_1 : decode cX6_checkRoomForTerm 1 = .ok (.getfield 10, 3) := by decide +kernel
theorem dX6_checkRoomForTerm_4 : decode cX6_checkRoomForTerm 4 = .ok (.getfield 198, 3) := by decide +kernel
theorem dX6_checkRoomForTerm_7 : decode cX6_checkRoomForTerm 7 = .ok (.bipush 10, 2) := by decide +kernel
theorem dX6_checkRoomForTerm_9 : decode cX6_checkRoomForTerm 9 = .ok (.if_icmp .lt 11, 3) := by decide +kernel
theorem dX6_checkRoomForTerm_12 : decode cX6_checkRoomForTerm 12 = .ok (.new 96, 3) := by decide +kernel
theorem dX6_checkRoomForTerm_15 : decode cX6_checkRoomForTerm 15 = .ok (.dup, 1) := by decide +kernel
theorem dX6_checkRoomForTerm_16 : decode cX6_checkRoomForTerm 16 = .ok (.invokespecial 98, 3) := by decide +kernel
theorem dX6_checkRoomForTerm_19 : decode cX6_checkRoomForTerm 19 = .ok (.athrow, 1) := by decide +kernel
theorem dX6_checkRoomForTerm_20 : decode cX6_checkRoomForTerm 20 = .ok (.return_, 1) := by decide +kernel
theorem dX6_checkTerm_0 : decode cX6_checkTerm 0 = .ok (.iload_n 1, 1) := by decide +kernel
theorem dX6_checkTerm_1 : decode cX6_checkTerm 1 = .ok (.ifCond .lt 14, 3) := by decide +kernel
theorem dX6_checkTerm_4 : decode cX6_checkTerm 4 = .ok (.iload_n 1, 1) := by decide +kernel
theorem dX6_checkTerm_5 : decode cX6_checkTerm 5 = .ok (.aload_n 0, 1) := by decide +kernel
theorem dX6_checkTerm_6 : decode cX6_checkTerm 6 = .ok (.getfield 10, 3) := by decide +kernel
theorem dX6_checkTerm_9 : decode cX6_checkTerm 9 = .ok (.getfield 198, 3) := by decide +kernel
theorem dX6_checkTerm_12 : decode cX6_checkTerm 12 = .ok (.if_icmp .lt 11, 3) := by decide +kernel
theorem dX6_checkTerm_15 : decode cX6_checkTerm 15 = .ok (.new 249, 3) := by decide +kernel
theorem dX6_checkTerm_18 : decode cX6_checkTerm 18 = .ok (.dup, 1) := by decide +kernel
theorem dX6_checkTerm_19 : decode cX6_checkTerm 19 = .ok (.invokespecial 251, 3) := by decide +kernel
theorem dX6_checkTerm_22 : decode cX6_checkTerm 22 = .ok (.athrow, 1) := by decide +kernel
theorem dX6_checkTerm_23 : decode cX6_checkTerm 23 = .ok (.return_, 1) := by decide +kernel
theorem dX6_checkStandingTerm_0 : decode cX6_checkStandingTerm 0 = .ok (.aload_n 0, 1) := by decide +kernel
theorem dX6_checkStandingTerm_1 : decode cX6_checkStandingTerm 1 = .ok (.iload_n 1, 1) := by decide +kernel
theorem dX6_checkStandingTerm_2 : decode cX6_checkStandingTerm 2 = .ok (.invokevirtual 129, 3) := by decide +kernel
theorem dX6_checkStandingTerm_5 : decode cX6_checkStandingTerm 5 = .ok (.aload_n 0, 1) := by decide +kernel
theorem dX6_checkStandingTerm_6 : decode cX6_checkStandingTerm 6 = .ok (.getfield 10, 3) := by decide +kernel
theorem dX6_checkStandingTerm_9 : decode cX6_checkStandingTerm 9 = .ok (.getfield 132, 3) := by decide +kernel
theorem dX6_checkStandingTerm_12 : decode cX6_checkStandingTerm 12 = .ok (.iload_n 1, 1) := by decide +kernel
theorem dX6_checkStandingTerm_13 : decode cX6_checkStandingTerm 13 = .ok (.baload, 1) := by decide +kernel
theorem dX6_checkStandingTerm_14 : decode cX6_checkStandingTerm 14 = .ok (.ifCond .eq 11, 3) := by decide +kernel
theorem dX6_checkStandingTerm_17 : decode cX6_checkStandingTerm 17 = .ok (.new 96, 3) := by decide +kernel
theorem dX6_checkStandingTerm_20 : decode cX6_checkStandingTerm 20 = .ok (.dup, 1) := by decide +kernel
theorem dX6_checkStandingTerm_21 : decode cX6_checkStandingTerm 21 = .ok (.invokespecial 98, 3) := by decide +kernel
theorem dX6_checkStandingTerm_24 : decode cX6_checkStandingTerm 24 = .ok (.athrow, 1) := by decide +kernel
theorem dX6_checkStandingTerm_25 : decode cX6_checkStandingTerm 25 = .ok (.return_, 1) := by decide +kernel
theorem dX6_checkAnyTermStands_0 : decode cX6_checkAnyTermStands 0 = .ok (.aload_n 0, 1) := by decide +kernel
theorem dX6_checkAnyTermStands_1 : decode cX6_checkAnyTermStands 1 = .ok (.getfield 10, 3) := by decide +kernel
theorem dX6_checkAnyTermStands_4 : decode cX6_checkAnyTermStands 4 = .ok (.invokevirtual 260, 3) := by decide +kernel
theorem dX6_checkAnyTermStands_7 : decode cX6_checkAnyTermStands 7 = .ok (.ifCond .ne 11, 3) := by decide +kernel
theorem dX6_checkAnyTermStands_10 : decode cX6_checkAnyTermStands 10 = .ok (.new 205, 3) := by decide +kernel
theorem dX6_checkAnyTermStands_13 : decode cX6_checkAnyTermStands 13 = .ok (.dup, 1) := by decide +kernel
theorem dX6_checkAnyTermStands_14 : decode cX6_checkAnyTermStands 14 = .ok (.invokespecial 207, 3) := by decide +kernel
theorem dX6_checkAnyTermStands_17 : decode cX6_checkAnyTermStands 17 = .ok (.athrow, 1) := by decide +kernel
theorem dX6_checkAnyTermStands_18 : decode cX6_checkAnyTermStands 18 = .ok (.return_, 1) := by decide +kernel
theorem dX6_checkAward_0 : decode cX6_checkAward 0 = .ok (.iload_n 1, 1) := by decide +kernel
theorem dX6_checkAward_1 : decode cX6_checkAward 1 = .ok (.ifCond .lt 14, 3) := by decide +kernel
theorem dX6_checkAward_4 : decode cX6_checkAward 4 = .ok (.iload_n 1, 1) := by decide +kernel
theorem dX6_checkAward_5 : decode cX6_checkAward 5 = .ok (.aload_n 0, 1) := by decide +kernel
theorem dX6_checkAward_6 : decode cX6_checkAward 6 = .ok (.getfield 26, 3) := by decide +kernel
theorem dX6_checkAward_9 : decode cX6_checkAward 9 = .ok (.getfield 167, 3) := by decide +kernel
theorem dX6_checkAward_12 : decode cX6_checkAward 12 = .ok (.if_icmp .lt 11, 3) := by decide +kernel
theorem dX6_checkAward_15 : decode cX6_checkAward 15 = .ok (.new 249, 3) := by decide +kernel
theorem dX6_checkAward_18 : decode cX6_checkAward 18 = .ok (.dup, 1) := by decide +kernel
theorem dX6_checkAward_19 : decode cX6_checkAward 19 = .ok (.invokespecial 251, 3) := by decide +kernel
theorem dX6_checkAward_22 : decode cX6_checkAward 22 = .ok (.athrow, 1) := by decide +kernel
theorem dX6_checkAward_23 : decode cX6_checkAward 23 = .ok (.return_, 1) := by decide +kernel
theorem dX6_within_0 : decode cX6_within 0 = .ok (.iload_n 1, 1) := by decide +kernel
theorem dX6_within_1 : decode cX6_within 1 = .ok (.iload_n 0, 1) := by decide +kernel
theorem dX6_within_2 : decode cX6_within 2 = .ok (.invokestatic 252, 3) := by decide +kernel
theorem dX6_within_5 : decode cX6_within 5 = .ok (.iload_n 2, 1) := by decide +kernel
theorem dX6_within_6 : decode cX6_within 6 = .ok (.invokestatic 293, 3) := by decide +kernel
theorem dX6_within_9 : decode cX6_within 9 = .ok (.ireturn, 1) := by decide +kernel
theorem dX6_addTerm_0 : decode cX6_addTerm 0 = .ok (.aload_n 0, 1) := by decide +kernel
theorem dX6_addTerm_1 : decode cX6_addTerm 1 = .ok (.getfield 10, 3) := by decide +kernel
theorem dX6_addTerm_4 : decode cX6_addTerm 4 = .ok (.iload_n 1, 1) := by decide +kernel
theorem dX6_addTerm_5 : decode cX6_addTerm 5 = .ok (.iload_n 2, 1) := by decide +kernel
theorem dX6_addTerm_6 : decode cX6_addTerm 6 = .ok (.iload_n 3, 1) := by decide +kernel
theorem dX6_addTerm_7 : decode cX6_addTerm 7 = .ok (.iload 4, 2) := by decide +kernel
theorem dX6_addTerm_9 : decode cX6_addTerm 9 = .ok (.aload_n 0, 1) := by decide +kernel
theorem dX6_addTerm_10 : decode cX6_addTerm 10 = .ok (.getfield 92, 3) := by decide +kernel
theorem dX6_addTerm_13 : decode cX6_addTerm 13 = .ok (.invokevirtual 296, 3) := by decide +kernel
theorem dX6_addTerm_16 : decode cX6_addTerm 16 = .ok (.istore 5, 2) := by decide +kernel
theorem dX6_addTerm_18 : decode cX6_addTerm 18 = .ok (.aload_n 0, 1) := by decide +kernel
theorem dX6_addTerm_19 : decode cX6_addTerm 19 = .ok (.invokevirtual 149, 3) := by decide +kernel
theorem dX6_addTerm_22 : decode cX6_addTerm 22 = .ok (.iload 5, 2) := by decide +kernel
theorem dX6_addTerm_24 : decode cX6_addTerm 24 = .ok (.ireturn, 1) := by decide +kernel
theorem dX6_settle_0 : decode cX6_settle 0 = .ok (.iconst 0, 1) := by decide +kernel
theorem dX6_settle_1 : decode cX6_settle 1 = .ok (.istore_n 1, 1) := by decide +kernel
theorem dX6_settle_2 : decode cX6_settle 2 = .ok (.iload_n 1, 1) := by decide +kernel
theorem dX6_settle_3 : decode cX6_settle 3 = .ok (.aload_n 0, 1) := by decide +kernel
theorem dX6_settle_4 : decode cX6_settle 4 = .ok (.getfield 10, 3) := by decide +kernel
theorem dX6_settle_7 : decode cX6_settle 7 = .ok (.getfield 198, 3) := by decide +kernel
theorem dX6_settle_10 : decode cX6_settle 10 = .ok (.if_icmp .ge 43, 3) := by decide +kernel
theorem dX6_settle_13 : decode cX6_settle 13 = .ok (.aload_n 0, 1) := by decide +kernel
theorem dX6_settle_14 : decode cX6_settle 14 = .ok (.getfield 10, 3) := by decide +kernel
theorem dX6_settle_17 : decode cX6_settle 17 = .ok (.getfield 132, 3) := by decide +kernel
theorem dX6_settle_20 : decode cX6_settle 20 = .ok (.iload_n 1, 1) := by decide +kernel
theorem dX6_settle_21 : decode cX6_settle 21 = .ok (.baload, 1) := by decide +kernel
theorem dX6_settle_22 : decode cX6_settle 22 = .ok (.ifCond .ne 25, 3) := by decide +kernel
theorem dX6_settle_25 : decode cX6_settle 25 = .ok (.aload_n 0, 1) := by decide +kernel
theorem dX6_settle_26 : decode cX6_settle 26 = .ok (.getfield 10, 3) := by decide +kernel
theorem dX6_settle_29 : decode cX6_settle 29 = .ok (.iload_n 1, 1) := by decide +kernel
theorem dX6_settle_30 : decode cX6_settle 30 = .ok (.invokevirtual 299, 3) := by decide +kernel
theorem dX6_settle_33 : decode cX6_settle 33 = .ok (.aload_n 0, 1) := by decide +kernel
theorem dX6_settle_34 : decode cX6_settle 34 = .ok (.getfield 10, 3) := by decide +kernel
theorem dX6_settle_37 : decode cX6_settle 37 = .ok (.getfield 155, 3) := by decide +kernel
theorem dX6_settle_40 : decode cX6_settle 40 = .ok (.iload_n 1, 1) := by decide +kernel
theorem dX6_settle_41 : decode cX6_settle 41 = .ok (.aload_n 0, 1) := by decide +kernel
theorem dX6_settle_42 : decode cX6_settle 42 = .ok (.iload_n 1, 1) := by decide +kernel
theorem dX6_settle_43 : decode cX6_settle 43 = .ok (.invokevirtual 302, 3) := by decide +kernel
theorem dX6_settle_46 : decode cX6_settle 46 = .ok (.iastore, 1) := by decide +kernel
theorem dX6_settle_47 : decode cX6_settle 47 = .ok (.iinc 1 1, 3) := by decide +kernel
theorem dX6_settle_50 : decode cX6_settle 50 = .ok (.goto (-48), 3) := by decide +kernel
theorem dX6_settle_53 : decode cX6_settle 53 = .ok (.return_, 1) := by decide +kernel
theorem dX6_markedCredit_0 : decode cX6_markedCredit 0 = .ok (.aload_n 0, 1) := by decide +kernel
theorem dX6_markedCredit_1 : decode cX6_markedCredit 1 = .ok (.getfield 47, 3) := by decide +kernel
theorem dX6_markedCredit_4 : decode cX6_markedCredit 4 = .ok (.invokevirtual 305, 3) := by decide +kernel
theorem dX6_markedCredit_7 : decode cX6_markedCredit 7 = .ok (.iconst 0, 1) := by decide +kernel
theorem dX6_markedCredit_8 : decode cX6_markedCredit 8 = .ok (.istore_n 2, 1) := by decide +kernel
theorem dX6_markedCredit_9 : decode cX6_markedCredit 9 = .ok (.iload_n 2, 1) := by decide +kernel
theorem dX6_markedCredit_10 : decode cX6_markedCredit 10 = .ok (.aload_n 0, 1) := by decide +kernel
theorem dX6_markedCredit_11 : decode cX6_markedCredit 11 = .ok (.getfield 19, 3) := by decide +kernel
theorem dX6_markedCredit_14 : decode cX6_markedCredit 14 = .ok (.getfield 143, 3) := by decide +kernel
theorem dX6_markedCredit_17 : decode cX6_markedCredit 17 = .ok (.if_icmp .ge 54, 3) := by decide +kernel
theorem dX6_markedCredit_20 : decode cX6_markedCredit 20 = .ok (.aload_n 0, 1) := by decide +kernel
theorem dX6_markedCredit_21 : decode cX6_markedCredit 21 = .ok (.getfield 19, 3) := by decide +kernel
theorem dX6_markedCredit_24 : decode cX6_markedCredit 24 = .ok (.aload_n 0, 1) := by decide +kernel
theorem dX6_markedCredit_25 : decode cX6_markedCredit 25 = .ok (.getfield 10, 3) := by decide +kernel
theorem dX6_markedCredit_28 : decode cX6_markedCredit 28 = .ok (.getfield 208, 3) := by decide +kernel
theorem dX6_markedCredit_31 : decode cX6_markedCredit 31 = .ok (.iload_n 1, 1) := by decide +kernel
theorem dX6_markedCredit_32 : decode cX6_markedCredit 32 = .ok (.iaload, 1) := by decide +kernel
theorem dX6_markedCredit_33 : decode cX6_markedCredit 33 = .ok (.iload_n 2, 1) := by decide +kernel
theorem dX6_markedCredit_34 : decode cX6_markedCredit 34 = .ok (.invokevirtual 308, 3) := by decide +kernel
theorem dX6_markedCredit_37 : decode cX6_markedCredit 37 = .ok (.ifCond .eq 28, 3) := by decide +kernel
theorem dX6_markedCredit_40 : decode cX6_markedCredit 40 = .ok (.aload_n 0, 1) := by decide +kernel
theorem dX6_markedCredit_41 : decode cX6_markedCredit 41 = .ok (.getfield 47, 3) := by decide +kernel
theorem dX6_markedCredit_44 : decode cX6_markedCredit 44 = .ok (.aload_n 0, 1) := by decide +kernel
theorem dX6_markedCredit_45 : decode cX6_markedCredit 45 = .ok (.getfield 19, 3) := by decide +kernel
theorem dX6_markedCredit_48 : decode cX6_markedCredit 48 = .ok (.getfield 312, 3) := by decide +kernel
theorem dX6_markedCredit_51 : decode cX6_markedCredit 51 = .ok (.iload_n 2, 1) := by decide +kernel
theorem dX6_markedCredit_52 : decode cX6_markedCredit 52 = .ok (.iaload, 1) := by decide +kernel
theorem dX6_markedCredit_53 : decode cX6_markedCredit 53 = .ok (.aload_n 0, 1) := by decide +kernel
theorem dX6_markedCredit_54 : decode cX6_markedCredit 54 = .ok (.getfield 19, 3) := by decide +kernel
theorem dX6_markedCredit_57 : decode cX6_markedCredit 57 = .ok (.getfield 315, 3) := by decide +kernel
theorem dX6_markedCredit_60 : decode cX6_markedCredit 60 = .ok (.iload_n 2, 1) := by decide +kernel
theorem dX6_markedCredit_61 : decode cX6_markedCredit 61 = .ok (.iaload, 1) := by decide +kernel
theorem dX6_markedCredit_62 : decode cX6_markedCredit 62 = .ok (.invokevirtual 109, 3) := by decide +kernel
theorem dX6_markedCredit_65 : decode cX6_markedCredit 65 = .ok (.iinc 2 1, 3) := by decide +kernel
theorem dX6_markedCredit_68 : decode cX6_markedCredit 68 = .ok (.goto (-59), 3) := by decide +kernel
theorem dX6_markedCredit_71 : decode cX6_markedCredit 71 = .ok (.aload_n 0, 1) := by decide +kernel
theorem dX6_markedCredit_72 : decode cX6_markedCredit 72 = .ok (.getfield 47, 3) := by decide +kernel
theorem dX6_markedCredit_75 : decode cX6_markedCredit 75 = .ok (.aload_n 0, 1) := by decide +kernel
theorem dX6_markedCredit_76 : decode cX6_markedCredit 76 = .ok (.getfield 40, 3) := by decide +kernel
theorem dX6_markedCredit_79 : decode cX6_markedCredit 79 = .ok (.invokevirtual 318, 3) := by decide +kernel
theorem dX6_markedCredit_82 : decode cX6_markedCredit 82 = .ok (.aload_n 0, 1) := by decide +kernel
theorem dX6_markedCredit_83 : decode cX6_markedCredit 83 = .ok (.getfield 10, 3) := by decide +kernel
theorem dX6_markedCredit_86 : decode cX6_markedCredit 86 = .ok (.getfield 222, 3) := by decide +kernel
theorem dX6_markedCredit_89 : decode cX6_markedCredit 89 = .ok (.iload_n 1, 1) := by decide +kernel
theorem dX6_markedCredit_90 : decode cX6_markedCredit 90 = .ok (.iaload, 1) := by decide +kernel
theorem dX6_markedCredit_91 : decode cX6_markedCredit 91 = .ok (.invokestatic 293, 3) := by decide +kernel
theorem dX6_markedCredit_94 : decode cX6_markedCredit 94 = .ok (.ireturn, 1) := by decide +kernel
theorem dX6_mergedCredit_0 : decode cX6_mergedCredit 0 = .ok (.aload_n 0, 1) := by decide +kernel
theorem dX6_mergedCredit_1 : decode cX6_mergedCredit 1 = .ok (.getfield 19, 3) := by decide +kernel
theorem dX6_mergedCredit_4 : decode cX6_mergedCredit 4 = .ok (.aload_n 0, 1) := by decide +kernel
theorem dX6_mergedCredit_5 : decode cX6_mergedCredit 5 = .ok (.getfield 10, 3) := by decide +kernel
theorem dX6_mergedCredit_8 : decode cX6_mergedCredit 8 = .ok (.getfield 208, 3) := by decide +kernel
theorem dX6_mergedCredit_11 : decode cX6_mergedCredit 11 = .ok (.iload_n 1, 1) := by decide +kernel
theorem dX6_mergedCredit_12 : decode cX6_mergedCredit 12 = .ok (.iaload, 1) := by decide +kernel
theorem dX6_mergedCredit_13 : decode cX6_mergedCredit 13 = .ok (.invokevirtual 322, 3) := by decide +kernel
theorem dX6_mergedCredit_16 : decode cX6_mergedCredit 16 = .ok (.istore_n 2, 1) := by decide +kernel
theorem dX6_mergedCredit_17 : decode cX6_mergedCredit 17 = .ok (.iconst 0, 1) := by decide +kernel
theorem dX6_mergedCredit_18 : decode cX6_mergedCredit 18 = .ok (.istore_n 3, 1) := by decide +kernel
theorem dX6_mergedCredit_19 : decode cX6_mergedCredit 19 = .ok (.iconst 0, 1) := by decide +kernel
theorem dX6_mergedCredit_20 : decode cX6_mergedCredit 20 = .ok (.istore 4, 2) := by decide +kernel
theorem dX6_mergedCredit_22 : decode cX6_mergedCredit 22 = .ok (.iconst (-1), 1) := by decide +kernel
theorem dX6_mergedCredit_23 : decode cX6_mergedCredit 23 = .ok (.istore 5, 2) := by decide +kernel
theorem dX6_mergedCredit_25 : decode cX6_mergedCredit 25 = .ok (.iconst 0, 1) := by decide +kernel
theorem dX6_mergedCredit_26 : decode cX6_mergedCredit 26 = .ok (.istore 6, 2) := by decide +kernel
theorem dX6_mergedCredit_28 : decode cX6_mergedCredit 28 = .ok (.iload 6, 2) := by decide +kernel
theorem dX6_mergedCredit_30 : decode cX6_mergedCredit 30 = .ok (.iload_n 2, 1) := by decide +kernel
theorem dX6_mergedCredit_31 : decode cX6_mergedCredit 31 = .ok (.if_icmp .ge 79, 3) := by decide +kernel
theorem dX6_mergedCredit_34 : decode cX6_mergedCredit 34 = .ok (.aload_n 0, 1) := by decide +kernel
theorem dX6_mergedCredit_35 : decode cX6_mergedCredit 35 = .ok (.getfield 19, 3) := by decide +kernel
theorem dX6_mergedCredit_38 : decode cX6_mergedCredit 38 = .ok (.getfield 325, 3) := by decide +kernel
theorem dX6_mergedCredit_41 : decode cX6_mergedCredit 41 = .ok (.iload 6, 2) := by decide +kernel
theorem dX6_mergedCredit_43 : decode cX6_mergedCredit 43 = .ok (.iaload, 1) := by decide +kernel
theorem dX6_mergedCredit_44 : decode cX6_mergedCredit 44 = .ok (.iload 5, 2) := by decide +kernel
theorem dX6_mergedCredit_46 : decode cX6_mergedCredit 46 = .ok (.if_icmp .le 41, 3) := by decide +kernel
theorem dX6_mergedCredit_49 : decode cX6_mergedCredit 49 = .ok (.iload_n 3, 1) := by decide +kernel
theorem dX6_mergedCredit_50 : decode cX6_mergedCredit 50 = .ok (.aload_n 0, 1) := by decide +kernel
theorem dX6_mergedCredit_51 : decode cX6_mergedCredit 51 = .ok (.iload 4, 2) := by decide +kernel
theorem dX6_mergedCredit_53 : decode cX6_mergedCredit 53 = .ok (.iload 5, 2) := by decide +kernel
theorem dX6_mergedCredit_55 : decode cX6_mergedCredit 55 = .ok (.invokevirtual 328, 3) := by decide +kernel
theorem dX6_mergedCredit_58 : decode cX6_mergedCredit 58 = .ok (.iadd, 1) := by decide +kernel
theorem dX6_mergedCredit_59 : decode cX6_mergedCredit 59 = .ok (.istore_n 3, 1) := by decide +kernel
theorem dX6_mergedCredit_60 : decode cX6_mergedCredit 60 = .ok (.aload_n 0, 1) := by decide +kernel
theorem dX6_mergedCredit_61 : decode cX6_mergedCredit 61 = .ok (.getfield 19, 3) := by decide +kernel
theorem dX6_mergedCredit_64 : decode cX6_mergedCredit 64 = .ok (.getfield 325, 3) := by decide +kernel
theorem dX6_mergedCredit_67 : decode cX6_mergedCredit 67 = .ok (.iload 6, 2) := by decide +kernel
theorem dX6_mergedCredit_69 : decode cX6_mergedCredit 69 = .ok (.iaload, 1) := by decide +kernel
theorem dX6_mergedCredit_70 : decode cX6_mergedCredit 70 = .ok (.istore 4, 2) := by decide +kernel
theorem dX6_mergedCredit_72 : decode cX6_mergedCredit 72 = .ok (.aload_n 0, 1) := by decide +kernel
theorem dX6_mergedCredit_73 : decode cX6_mergedCredit 73 = .ok (.getfield 19, 3) := by decide +kernel
theorem dX6_mergedCredit_76 : decode cX6_mergedCredit 76 = .ok (.getfield 331, 3) := by decide +kernel
theorem dX6_mergedCredit_79 : decode cX6_mergedCredit 79 = .ok (.iload 6, 2) := by decide +kernel
end
section
theorem dX6_mergedCredit_81 : decode cX6_mergedCredit 81 = .ok (.iaload, 1) := by decide +kernel
theorem dX6_mergedCredit_82 : decode cX6_mergedCredit 82 = .ok (.istore 5, 2) := by decide +kernel
theorem dX6_mergedCredit_84 : decode cX6_mergedCredit 84 = .ok (.goto 20, 3) := by decide +kernel
theorem dX6_mergedCredit_87 : decode cX6_mergedCredit 87 = .ok (.iload 5, 2) := by decide +kernel
theorem dX6_mergedCredit_89 : decode cX6_mergedCredit 89 = .ok (.aload_n 0, 1) := by decide +kernel
theorem dX6_mergedCredit_90 : decode cX6_mergedCredit 90 = .ok (.getfield 19, 3) := by decide +kernel
theorem dX6_mergedCredit_93 : decode cX6_mergedCredit 93 = .ok (.getfield 331, 3) := by decide +kernel
theorem dX6_mergedCredit_96 : decode cX6_mergedCredit 96 = .ok (.iload 6, 2) := by decide +kernel
theorem dX6_mergedCredit_98 : decode cX6_mergedCredit 98 = .ok (.iaload, 1) := by decide +kernel
theorem dX6_mergedCredit_99 : decode cX6_mergedCredit 99 = .ok (.invokestatic 252, 3) := by decide +kernel
theorem dX6_mergedCredit_102 : decode cX6_mergedCredit 102 = .ok (.istore 5, 2) := by decide +kernel
theorem dX6_mergedCredit_104 : decode cX6_mergedCredit 104 = .ok (.iinc 6 1, 3) := by decide +kernel
theorem dX6_mergedCredit_107 : decode cX6_mergedCredit 107 = .ok (.goto (-79), 3) := by decide +kernel
theorem dX6_mergedCredit_110 : decode cX6_mergedCredit 110 = .ok (.iload_n 3, 1) := by decide +kernel
theorem dX6_mergedCredit_111 : decode cX6_mergedCredit 111 = .ok (.aload_n 0, 1) := by decide +kernel
theorem dX6_mergedCredit_112 : decode cX6_mergedCredit 112 = .ok (.iload 4, 2) := by decide +kernel
theorem dX6_mergedCredit_114 : decode cX6_mergedCredit 114 = .ok (.iload 5, 2) := by decide +kernel
theorem dX6_mergedCredit_116 : decode cX6_mergedCredit 116 = .ok (.invokevirtual 328, 3) := by decide +kernel
theorem dX6_mergedCredit_119 : decode cX6_mergedCredit 119 = .ok (.iadd, 1) := by decide +kernel
theorem dX6_mergedCredit_120 : decode cX6_mergedCredit 120 = .ok (.istore_n 3, 1) := by decide +kernel
theorem dX6_mergedCredit_121 : decode cX6_mergedCredit 121 = .ok (.iload_n 3, 1) := by decide +kernel
theorem dX6_mergedCredit_122 : decode cX6_mergedCredit 122 = .ok (.aload_n 0, 1) := by decide +kernel
theorem dX6_mergedCredit_123 : decode cX6_mergedCredit 123 = .ok (.getfield 10, 3) := by decide +kernel
theorem dX6_mergedCredit_126 : decode cX6_mergedCredit 126 = .ok (.getfield 222, 3) := by decide +kernel
theorem dX6_mergedCredit_129 : decode cX6_mergedCredit 129 = .ok (.iload_n 1, 1) := by decide +kernel
theorem dX6_mergedCredit_130 : decode cX6_mergedCredit 130 = .ok (.iaload, 1) := by decide +kernel
theorem dX6_mergedCredit_131 : decode cX6_mergedCredit 131 = .ok (.invokestatic 293, 3) := by decide +kernel
theorem dX6_mergedCredit_134 : decode cX6_mergedCredit 134 = .ok (.ireturn, 1) := by decide +kernel
theorem dX6_unservedDays_0 : decode cX6_unservedDays 0 = .ok (.iload_n 2, 1) := by decide +kernel
theorem dX6_unservedDays_1 : decode cX6_unservedDays 1 = .ok (.iload_n 1, 1) := by decide +kernel
theorem dX6_unservedDays_2 : decode cX6_unservedDays 2 = .ok (.isub, 1) := by decide +kernel
theorem dX6_unservedDays_3 : decode cX6_unservedDays 3 = .ok (.iconst 1, 1) := by decide +kernel
theorem dX6_unservedDays_4 : decode cX6_unservedDays 4 = .ok (.iadd, 1) := by decide +kernel
theorem dX6_unservedDays_5 : decode cX6_unservedDays 5 = .ok (.aload_n 0, 1) := by decide +kernel
theorem dX6_unservedDays_6 : decode cX6_unservedDays 6 = .ok (.getfield 40, 3) := by decide +kernel
theorem dX6_unservedDays_9 : decode cX6_unservedDays 9 = .ok (.iload_n 1, 1) := by decide +kernel
theorem dX6_unservedDays_10 : decode cX6_unservedDays 10 = .ok (.iload_n 2, 1) := by decide +kernel
theorem dX6_unservedDays_11 : decode cX6_unservedDays 11 = .ok (.invokevirtual 334, 3) := by decide +kernel
theorem dX6_unservedDays_14 : decode cX6_unservedDays 14 = .ok (.isub, 1) := by decide +kernel
theorem dX6_unservedDays_15 : decode cX6_unservedDays 15 = .ok (.ireturn, 1) := by decide +kernel
theorem dX6_releaseIn_0 : decode cX6_releaseIn 0 = .ok (.aload_n 0, 1) := by decide +kernel
theorem dX6_releaseIn_1 : decode cX6_releaseIn 1 = .ok (.getfield 10, 3) := by decide +kernel
theorem dX6_releaseIn_4 : decode cX6_releaseIn 4 = .ok (.iload_n 1, 1) := by decide +kernel
theorem dX6_releaseIn_5 : decode cX6_releaseIn 5 = .ok (.aload_n 0, 1) := by decide +kernel
theorem dX6_releaseIn_6 : decode cX6_releaseIn 6 = .ok (.getfield 26, 3) := by decide +kernel
theorem dX6_releaseIn_9 : decode cX6_releaseIn 9 = .ok (.aload_n 0, 1) := by decide +kernel
theorem dX6_releaseIn_10 : decode cX6_releaseIn 10 = .ok (.getfield 10, 3) := by decide +kernel
theorem dX6_releaseIn_13 : decode cX6_releaseIn 13 = .ok (.getfield 208, 3) := by decide +kernel
theorem dX6_releaseIn_16 : decode cX6_releaseIn 16 = .ok (.iload_n 1, 1) := by decide +kernel
theorem dX6_releaseIn_17 : decode cX6_releaseIn 17 = .ok (.iaload, 1) := by decide +kernel
theorem dX6_releaseIn_18 : decode cX6_releaseIn 18 = .ok (.invokevirtual 231, 3) := by decide +kernel
theorem dX6_releaseIn_21 : decode cX6_releaseIn 21 = .ok (.invokevirtual 337, 3) := by decide +kernel
theorem dX6_releaseIn_24 : decode cX6_releaseIn 24 = .ok (.ireturn, 1) := by decide +kernel
theorem dX6_servedRelease_0 : decode cX6_servedRelease 0 = .ok (.aload_n 0, 1) := by decide +kernel
theorem dX6_servedRelease_1 : decode cX6_servedRelease 1 = .ok (.getfield 10, 3) := by decide +kernel
theorem dX6_servedRelease_4 : decode cX6_servedRelease 4 = .ok (.getfield 225, 3) := by decide +kernel
theorem dX6_servedRelease_7 : decode cX6_servedRelease 7 = .ok (.iload_n 1, 1) := by decide +kernel
theorem dX6_servedRelease_8 : decode cX6_servedRelease 8 = .ok (.iaload, 1) := by decide +kernel
theorem dX6_servedRelease_9 : decode cX6_servedRelease 9 = .ok (.istore_n 2, 1) := by decide +kernel
theorem dX6_servedRelease_10 : decode cX6_servedRelease 10 = .ok (.aload_n 0, 1) := by decide +kernel
theorem dX6_servedRelease_11 : decode cX6_servedRelease 11 = .ok (.getfield 10, 3) := by decide +kernel
theorem dX6_servedRelease_14 : decode cX6_servedRelease 14 = .ok (.getfield 222, 3) := by decide +kernel
theorem dX6_servedRelease_17 : decode cX6_servedRelease 17 = .ok (.iload_n 1, 1) := by decide +kernel
theorem dX6_servedRelease_18 : decode cX6_servedRelease 18 = .ok (.iaload, 1) := by decide +kernel
theorem dX6_servedRelease_19 : decode cX6_servedRelease 19 = .ok (.iload_n 2, 1) := by decide +kernel
theorem dX6_servedRelease_20 : decode cX6_servedRelease 20 = .ok (.isub, 1) := by decide +kernel
theorem dX6_servedRelease_21 : decode cX6_servedRelease 21 = .ok (.istore_n 3, 1) := by decide +kernel
theorem dX6_servedRelease_22 : decode cX6_servedRelease 22 = .ok (.aload_n 0, 1) := by decide +kernel
theorem dX6_servedRelease_23 : decode cX6_servedRelease 23 = .ok (.getfield 10, 3) := by decide +kernel
theorem dX6_servedRelease_26 : decode cX6_servedRelease 26 = .ok (.getfield 155, 3) := by decide +kernel
theorem dX6_servedRelease_29 : decode cX6_servedRelease 29 = .ok (.iload_n 1, 1) := by decide +kernel
theorem dX6_servedRelease_30 : decode cX6_servedRelease 30 = .ok (.iaload, 1) := by decide +kernel
theorem dX6_servedRelease_31 : decode cX6_servedRelease 31 = .ok (.istore 4, 2) := by decide +kernel
theorem dX6_servedRelease_33 : decode cX6_servedRelease 33 = .ok (.iload 4, 2) := by decide +kernel
theorem dX6_servedRelease_35 : decode cX6_servedRelease 35 = .ok (.ifCond .le 22, 3) := by decide +kernel
theorem dX6_servedRelease_38 : decode cX6_servedRelease 38 = .ok (.iload_n 2, 1) := by decide +kernel
theorem dX6_servedRelease_39 : decode cX6_servedRelease 39 = .ok (.ifCond .le 9, 3) := by decide +kernel
theorem dX6_servedRelease_42 : decode cX6_servedRelease 42 = .ok (.iinc 2 (-1), 3) := by decide +kernel
theorem dX6_servedRelease_45 : decode cX6_servedRelease 45 = .ok (.goto 6, 3) := by decide +kernel
theorem dX6_servedRelease_48 : decode cX6_servedRelease 48 = .ok (.iinc 3 (-1), 3) := by decide +kernel
theorem dX6_servedRelease_51 : decode cX6_servedRelease 51 = .ok (.iinc 4 (-1), 3) := by decide +kernel
theorem dX6_servedRelease_54 : decode cX6_servedRelease 54 = .ok (.goto (-21), 3) := by decide +kernel
theorem dX6_servedRelease_57 : decode cX6_servedRelease 57 = .ok (.aload_n 0, 1) := by decide +kernel
theorem dX6_servedRelease_58 : decode cX6_servedRelease 58 = .ok (.getfield 26, 3) := by decide +kernel
theorem dX6_servedRelease_61 : decode cX6_servedRelease 61 = .ok (.aload_n 0, 1) := by decide +kernel
theorem dX6_servedRelease_62 : decode cX6_servedRelease 62 = .ok (.getfield 10, 3) := by decide +kernel
theorem dX6_servedRelease_65 : decode cX6_servedRelease 65 = .ok (.getfield 208, 3) := by decide +kernel
theorem dX6_servedRelease_68 : decode cX6_servedRelease 68 = .ok (.iload_n 1, 1) := by decide +kernel
theorem dX6_servedRelease_69 : decode cX6_servedRelease 69 = .ok (.iaload, 1) := by decide +kernel
theorem dX6_servedRelease_70 : decode cX6_servedRelease 70 = .ok (.invokevirtual 231, 3) := by decide +kernel
theorem dX6_servedRelease_73 : decode cX6_servedRelease 73 = .ok (.istore 4, 2) := by decide +kernel
theorem dX6_servedRelease_75 : decode cX6_servedRelease 75 = .ok (.iload 4, 2) := by decide +kernel
theorem dX6_servedRelease_77 : decode cX6_servedRelease 77 = .ok (.ifCond .le 19, 3) := by decide +kernel
theorem dX6_servedRelease_80 : decode cX6_servedRelease 80 = .ok (.iload_n 3, 1) := by decide +kernel
theorem dX6_servedRelease_81 : decode cX6_servedRelease 81 = .ok (.ifCond .le 9, 3) := by decide +kernel
theorem dX6_servedRelease_84 : decode cX6_servedRelease 84 = .ok (.iinc 3 (-1), 3) := by decide +kernel
theorem dX6_servedRelease_87 : decode cX6_servedRelease 87 = .ok (.iinc 2 1, 3) := by decide +kernel
theorem dX6_servedRelease_90 : decode cX6_servedRelease 90 = .ok (.iinc 4 (-1), 3) := by decide +kernel
theorem dX6_servedRelease_93 : decode cX6_servedRelease 93 = .ok (.goto (-18), 3) := by decide +kernel
theorem dX6_servedRelease_96 : decode cX6_servedRelease 96 = .ok (.aload_n 0, 1) := by decide +kernel
theorem dX6_servedRelease_97 : decode cX6_servedRelease 97 = .ok (.getfield 10, 3) := by decide +kernel
theorem dX6_servedRelease_100 : decode cX6_servedRelease 100 = .ok (.getfield 340, 3) := by decide +kernel
theorem dX6_servedRelease_103 : decode cX6_servedRelease 103 = .ok (.iload_n 1, 1) := by decide +kernel
theorem dX6_servedRelease_104 : decode cX6_servedRelease 104 = .ok (.iaload, 1) := by decide +kernel
theorem dX6_servedRelease_105 : decode cX6_servedRelease 105 = .ok (.istore 4, 2) := by decide +kernel
theorem dX6_servedRelease_107 : decode cX6_servedRelease 107 = .ok (.iload_n 2, 1) := by decide +kernel
theorem dX6_servedRelease_108 : decode cX6_servedRelease 108 = .ok (.istore 5, 2) := by decide +kernel
theorem dX6_servedRelease_110 : decode cX6_servedRelease 110 = .ok (.iload 5, 2) := by decide +kernel
theorem dX6_servedRelease_112 : decode cX6_servedRelease 112 = .ok (.ifCond .le 12, 3) := by decide +kernel
theorem dX6_servedRelease_115 : decode cX6_servedRelease 115 = .ok (.iinc 4 1, 3) := by decide +kernel
theorem dX6_servedRelease_118 : decode cX6_servedRelease 118 = .ok (.iinc 5 (-1), 3) := by decide +kernel
theorem dX6_servedRelease_121 : decode cX6_servedRelease 121 = .ok (.goto (-11), 3) := by decide +kernel
theorem dX6_servedRelease_124 : decode cX6_servedRelease 124 = .ok (.iload 4, 2) := by decide +kernel
theorem dX6_servedRelease_126 : decode cX6_servedRelease 126 = .ok (.ireturn, 1) := by decide +kernel
theorem dX6_termIsConsistent_0 : decode cX6_termIsConsistent 0 = .ok (.aload_n 0, 1) := by decide +kernel
theorem dX6_termIsConsistent_1 : decode cX6_termIsConsistent 1 = .ok (.iload_n 1, 1) := by decide +kernel
theorem dX6_termIsConsistent_2 : decode cX6_termIsConsistent 2 = .ok (.invokevirtual 136, 3) := by decide +kernel
theorem dX6_termIsConsistent_5 : decode cX6_termIsConsistent 5 = .ok (.istore_n 2, 1) := by decide +kernel
theorem dX6_termIsConsistent_6 : decode cX6_termIsConsistent 6 = .ok (.aload_n 0, 1) := by decide +kernel
theorem dX6_termIsConsistent_7 : decode cX6_termIsConsistent 7 = .ok (.getfield 10, 3) := by decide +kernel
theorem dX6_termIsConsistent_10 : decode cX6_termIsConsistent 10 = .ok (.getfield 155, 3) := by decide +kernel
theorem dX6_termIsConsistent_13 : decode cX6_termIsConsistent 13 = .ok (.iload_n 1, 1) := by decide +kernel
theorem dX6_termIsConsistent_14 : decode cX6_termIsConsistent 14 = .ok (.iaload, 1) := by decide +kernel
theorem dX6_termIsConsistent_15 : decode cX6_termIsConsistent 15 = .ok (.aload_n 0, 1) := by decide +kernel
theorem dX6_termIsConsistent_16 : decode cX6_termIsConsistent 16 = .ok (.iload_n 1, 1) := by decide +kernel
theorem dX6_termIsConsistent_17 : decode cX6_termIsConsistent 17 = .ok (.invokevirtual 228, 3) := by decide +kernel
theorem dX6_termIsConsistent_20 : decode cX6_termIsConsistent 20 = .ok (.if_icmp .ne 28, 3) := by decide +kernel
theorem dX6_termIsConsistent_23 : decode cX6_termIsConsistent 23 = .ok (.iload_n 2, 1) := by decide +kernel
theorem dX6_termIsConsistent_24 : decode cX6_termIsConsistent 24 = .ok (.aload_n 0, 1) := by decide +kernel
theorem dX6_termIsConsistent_25 : decode cX6_termIsConsistent 25 = .ok (.iload_n 1, 1) := by decide +kernel
theorem dX6_termIsConsistent_26 : decode cX6_termIsConsistent 26 = .ok (.invokevirtual 234, 3) := by decide +kernel
theorem dX6_termIsConsistent_29 : decode cX6_termIsConsistent 29 = .ok (.if_icmp .ne 19, 3) := by decide +kernel
theorem dX6_termIsConsistent_32 : decode cX6_termIsConsistent 32 = .ok (.iload_n 2, 1) := by decide +kernel
theorem dX6_termIsConsistent_33 : decode cX6_termIsConsistent 33 = .ok (.aload_n 0, 1) := by decide +kernel
theorem dX6_termIsConsistent_34 : decode cX6_termIsConsistent 34 = .ok (.getfield 10, 3) := by decide +kernel
theorem dX6_termIsConsistent_37 : decode cX6_termIsConsistent 37 = .ok (.iload_n 1, 1) := by decide +kernel
theorem dX6_termIsConsistent_38 : decode cX6_termIsConsistent 38 = .ok (.invokevirtual 237, 3) := by decide +kernel
theorem dX6_termIsConsistent_41 : decode cX6_termIsConsistent 41 = .ok (.if_icmp .gt 7, 3) := by decide +kernel
theorem dX6_termIsConsistent_44 : decode cX6_termIsConsistent 44 = .ok (.iconst 1, 1) := by decide +kernel
theorem dX6_termIsConsistent_45 : decode cX6_termIsConsistent 45 = .ok (.goto 4, 3) := by decide +kernel
theorem dX6_termIsConsistent_48 : decode cX6_termIsConsistent 48 = .ok (.iconst 0, 1) := by decide +kernel
theorem dX6_termIsConsistent_49 : decode cX6_termIsConsistent 49 = .ok (.ireturn, 1) := by decide +kernel
theorem dX6_greatestRelease_0 : decode cX6_greatestRelease 0 = .ok (.iconst 0, 1) := by decide +kernel
theorem dX6_greatestRelease_1 : decode cX6_greatestRelease 1 = .ok (.istore_n 3, 1) := by decide +kernel
theorem dX6_greatestRelease_2 : decode cX6_greatestRelease 2 = .ok (.iconst 0, 1) := by decide +kernel
theorem dX6_greatestRelease_3 : decode cX6_greatestRelease 3 = .ok (.istore 4, 2) := by decide +kernel
theorem dX6_greatestRelease_5 : decode cX6_greatestRelease 5 = .ok (.iload 4, 2) := by decide +kernel
theorem dX6_greatestRelease_7 : decode cX6_greatestRelease 7 = .ok (.aload_n 0, 1) := by decide +kernel
theorem dX6_greatestRelease_8 : decode cX6_greatestRelease 8 = .ok (.getfield 10, 3) := by decide +kernel
theorem dX6_greatestRelease_11 : decode cX6_greatestRelease 11 = .ok (.getfield 198, 3) := by decide +kernel
theorem dX6_greatestRelease_14 : decode cX6_greatestRelease 14 = .ok (.if_icmp .ge 82, 3) := by decide +kernel
theorem dX6_greatestRelease_17 : decode cX6_greatestRelease 17 = .ok (.aload_n 0, 1) := by decide +kernel
theorem dX6_greatestRelease_18 : decode cX6_greatestRelease 18 = .ok (.getfield 10, 3) := by decide +kernel
theorem dX6_greatestRelease_21 : decode cX6_greatestRelease 21 = .ok (.getfield 132, 3) := by decide +kernel
theorem dX6_greatestRelease_24 : decode cX6_greatestRelease 24 = .ok (.iload 4, 2) := by decide +kernel
theorem dX6_greatestRelease_26 : decode cX6_greatestRelease 26 = .ok (.baload, 1) := by decide +kernel
theorem dX6_greatestRelease_27 : decode cX6_greatestRelease 27 = .ok (.ifCond .ne 63, 3) := by decide +kernel
theorem dX6_greatestRelease_30 : decode cX6_greatestRelease 30 = .ok (.aload_n 0, 1) := by decide +kernel
theorem dX6_greatestRelease_31 : decode cX6_greatestRelease 31 = .ok (.getfield 10, 3) := by decide +kernel
theorem dX6_greatestRelease_34 : decode cX6_greatestRelease 34 = .ok (.getfield 208, 3) := by decide +kernel
theorem dX6_greatestRelease_37 : decode cX6_greatestRelease 37 = .ok (.iload 4, 2) := by decide +kernel
theorem dX6_greatestRelease_39 : decode cX6_greatestRelease 39 = .ok (.iaload, 1) := by decide +kernel
theorem dX6_greatestRelease_40 : decode cX6_greatestRelease 40 = .ok (.iload_n 1, 1) := by decide +kernel
theorem dX6_greatestRelease_41 : decode cX6_greatestRelease 41 = .ok (.iand, 1) := by decide +kernel
theorem dX6_greatestRelease_42 : decode cX6_greatestRelease 42 = .ok (.ifCond .eq 7, 3) := by decide +kernel
theorem dX6_greatestRelease_45 : decode cX6_greatestRelease 45 = .ok (.iload_n 2, 1) := by decide +kernel
theorem dX6_greatestRelease_46 : decode cX6_greatestRelease 46 = .ok (.goto 4, 3) := by decide +kernel
theorem dX6_greatestRelease_49 : decode cX6_greatestRelease 49 = .ok (.iconst 0, 1) := by decide +kernel
theorem dX6_greatestRelease_50 : decode cX6_greatestRelease 50 = .ok (.istore 5, 2) := by decide +kernel
theorem dX6_greatestRelease_52 : decode cX6_greatestRelease 52 = .ok (.aload_n 0, 1) := by decide +kernel
theorem dX6_greatestRelease_53 : decode cX6_greatestRelease 53 = .ok (.getfield 26, 3) := by decide +kernel
theorem dX6_greatestRelease_56 : decode cX6_greatestRelease 56 = .ok (.aload_n 0, 1) := by decide +kernel
theorem dX6_greatestRelease_57 : decode cX6_greatestRelease 57 = .ok (.getfield 10, 3) := by decide +kernel
theorem dX6_greatestRelease_60 : decode cX6_greatestRelease 60 = .ok (.getfield 208, 3) := by decide +kernel
theorem dX6_greatestRelease_63 : decode cX6_greatestRelease 63 = .ok (.iload 4, 2) := by decide +kernel
theorem dX6_greatestRelease_65 : decode cX6_greatestRelease 65 = .ok (.iaload, 1) := by decide +kernel
theorem dX6_greatestRelease_66 : decode cX6_greatestRelease 66 = .ok (.invokevirtual 231, 3) := by decide +kernel
theorem dX6_greatestRelease_69 : decode cX6_greatestRelease 69 = .ok (.iload 5, 2) := by decide +kernel
theorem dX6_greatestRelease_71 : decode cX6_greatestRelease 71 = .ok (.iadd, 1) := by decide +kernel
theorem dX6_greatestRelease_72 : decode cX6_greatestRelease 72 = .ok (.istore 6, 2) := by decide +kernel
theorem dX6_greatestRelease_74 : decode cX6_greatestRelease 74 = .ok (.iload_n 3, 1) := by decide +kernel
theorem dX6_greatestRelease_75 : decode cX6_greatestRelease 75 = .ok (.aload_n 0, 1) := by decide +kernel
theorem dX6_greatestRelease_76 : decode cX6_greatestRelease 76 = .ok (.getfield 10, 3) := by decide +kernel
theorem dX6_greatestRelease_79 : decode cX6_greatestRelease 79 = .ok (.iload 4, 2) := by decide +kernel
theorem dX6_greatestRelease_81 : decode cX6_greatestRelease 81 = .ok (.iload 6, 2) := by decide +kernel
theorem dX6_greatestRelease_83 : decode cX6_greatestRelease 83 = .ok (.invokevirtual 337, 3) := by decide +kernel
theorem dX6_greatestRelease_86 : decode cX6_greatestRelease 86 = .ok (.invokestatic 252, 3) := by decide +kernel
theorem dX6_greatestRelease_89 : decode cX6_greatestRelease 89 = .ok (.istore_n 3, 1) := by decide +kernel
theorem dX6_greatestRelease_90 : decode cX6_greatestRelease 90 = .ok (.iinc 4 1, 3) := by decide +kernel
theorem dX6_greatestRelease_93 : decode cX6_greatestRelease 93 = .ok (.goto (-88), 3) := by decide +kernel
theorem dX6_greatestRelease_96 : decode cX6_greatestRelease 96 = .ok (.iload_n 3, 1) := by decide +kernel
theorem dX6_greatestRelease_97 : decode cX6_greatestRelease 97 = .ok (.ireturn, 1) := by decide +kernel
theorem dX6_greatestEnd_0 : decode cX6_greatestEnd 0 = .ok (.iconst 0, 1) := by decide +kernel
theorem dX6_greatestEnd_1 : decode cX6_greatestEnd 1 = .ok (.istore_n 1, 1) := by decide +kernel
theorem dX6_greatestEnd_2 : decode cX6_greatestEnd 2 = .ok (.iconst 0, 1) := by decide +kernel
theorem dX6_greatestEnd_3 : decode cX6_greatestEnd 3 = .ok (.istore_n 2, 1) := by decide +kernel
theorem dX6_greatestEnd_4 : decode cX6_greatestEnd 4 = .ok (.iload_n 2, 1) := by decide +kernel
theorem dX6_greatestEnd_5 : decode cX6_greatestEnd 5 = .ok (.aload_n 0, 1) := by decide +kernel
theorem dX6_greatestEnd_6 : decode cX6_greatestEnd 6 = .ok (.getfield 10, 3) := by decide +kernel
theorem dX6_greatestEnd_9 : decode cX6_greatestEnd 9 = .ok (.getfield 198, 3) := by decide +kernel
theorem dX6_greatestEnd_12 : decode cX6_greatestEnd 12 = .ok (.if_icmp .ge 34, 3) := by decide +kernel
theorem dX6_greatestEnd_15 : decode cX6_greatestEnd 15 = .ok (.aload_n 0, 1) := by decide +kernel
theorem dX6_greatestEnd_16 : decode cX6_greatestEnd 16 = .ok (.getfield 10, 3) := by decide +kernel
theorem dX6_greatestEnd_19 : decode cX6_greatestEnd 19 = .ok (.getfield 132, 3) := by decide +kernel
theorem dX6_greatestEnd_22 : decode cX6_greatestEnd 22 = .ok (.iload_n 2, 1) := by decide +kernel
theorem dX6_greatestEnd_23 : decode cX6_greatestEnd 23 = .ok (.baload, 1) := by decide +kernel
theorem dX6_greatestEnd_24 : decode cX6_greatestEnd 24 = .ok (.ifCond .ne 16, 3) := by decide +kernel
theorem dX6_greatestEnd_27 : decode cX6_greatestEnd 27 = .ok (.iload_n 1, 1) := by decide +kernel
theorem dX6_greatestEnd_28 : decode cX6_greatestEnd 28 = .ok (.aload_n 0, 1) := by decide +kernel
theorem dX6_greatestEnd_29 : decode cX6_greatestEnd 29 = .ok (.getfield 10, 3) := by decide +kernel
theorem dX6_greatestEnd_32 : decode cX6_greatestEnd 32 = .ok (.iload_n 2, 1) := by decide +kernel
theorem dX6_greatestEnd_33 : decode cX6_greatestEnd 33 = .ok (.invokevirtual 237, 3) := by decide +kernel
theorem dX6_greatestEnd_36 : decode cX6_greatestEnd 36 = .ok (.invokestatic 252, 3) := by decide +kernel
theorem dX6_greatestEnd_39 : decode cX6_greatestEnd 39 = .ok (.istore_n 1, 1) := by decide +kernel
theorem dX6_greatestEnd_40 : decode cX6_greatestEnd 40 = .ok (.iinc 2 1, 3) := by decide +kernel
theorem dX6_greatestEnd_43 : decode cX6_greatestEnd 43 = .ok (.goto (-39), 3) := by decide +kernel
theorem dX6_greatestEnd_46 : decode cX6_greatestEnd 46 = .ok (.iload_n 1, 1) := by decide +kernel
theorem dX6_greatestEnd_47 : decode cX6_greatestEnd 47 = .ok (.ireturn, 1) := by decide +kernel
theorem dX6_termsUnreleased_0 : decode cX6_termsUnreleased 0 = .ok (.iconst 0, 1) := by decide +kernel
theorem dX6_termsUnreleased_1 : decode cX6_termsUnreleased 1 = .ok (.istore_n 1, 1) := by decide +kernel
theorem dX6_termsUnreleased_2 : decode cX6_termsUnreleased 2 = .ok (.iconst 0, 1) := by decide +kernel
theorem dX6_termsUnreleased_3 : decode cX6_termsUnreleased 3 = .ok (.istore_n 2, 1) := by decide +kernel
theorem dX6_termsUnreleased_4 : decode cX6_termsUnreleased 4 = .ok (.iload_n 2, 1) := by decide +kernel
theorem dX6_termsUnreleased_5 : decode cX6_termsUnreleased 5 = .ok (.aload_n 0, 1) := by decide +kernel
theorem dX6_termsUnreleased_6 : decode cX6_termsUnreleased 6 = .ok (.getfield 10, 3) := by decide +kernel
theorem dX6_termsUnreleased_9 : decode cX6_termsUnreleased 9 = .ok (.getfield 198, 3) := by decide +kernel
theorem dX6_termsUnreleased_12 : decode cX6_termsUnreleased 12 = .ok (.if_icmp .ge 39, 3) := by decide +kernel
theorem dX6_termsUnreleased_15 : decode cX6_termsUnreleased 15 = .ok (.aload_n 0, 1) := by decide +kernel
theorem dX6_termsUnreleased_16 : decode cX6_termsUnreleased 16 = .ok (.getfield 10, 3) := by decide +kernel
theorem dX6_termsUnreleased_19 : decode cX6_termsUnreleased 19 = .ok (.getfield 132, 3) := by decide +kernel
theorem dX6_termsUnreleased_22 : decode cX6_termsUnreleased 22 = .ok (.iload_n 2, 1) := by decide +kernel
theorem dX6_termsUnreleased_23 : decode cX6_termsUnreleased 23 = .ok (.baload, 1) := by decide +kernel
theorem dX6_termsUnreleased_24 : decode cX6_termsUnreleased 24 = .ok (.ifCond .ne 21, 3) := by decide +kernel
theorem dX6_termsUnreleased_27 : decode cX6_termsUnreleased 27 = .ok (.aload_n 0, 1) := by decide +kernel
theorem dX6_termsUnreleased_28 : decode cX6_termsUnreleased 28 = .ok (.iload_n 2, 1) := by decide +kernel
theorem dX6_termsUnreleased_29 : decode cX6_termsUnreleased 29 = .ok (.invokevirtual 136, 3) := by decide +kernel
theorem dX6_termsUnreleased_32 : decode cX6_termsUnreleased 32 = .ok (.aload_n 0, 1) := by decide +kernel
theorem dX6_termsUnreleased_33 : decode cX6_termsUnreleased 33 = .ok (.getfield 92, 3) := by decide +kernel
theorem dX6_termsUnreleased_36 : decode cX6_termsUnreleased 36 = .ok (.if_icmp .le 9, 3) := by decide +kernel
theorem dX6_termsUnreleased_39 : decode cX6_termsUnreleased 39 = .ok (.iload_n 1, 1) := by decide +kernel
theorem dX6_termsUnreleased_40 : decode cX6_termsUnreleased 40 = .ok (.iconst 1, 1) := by decide +kernel
theorem dX6_termsUnreleased_41 : decode cX6_termsUnreleased 41 = .ok (.iload_n 2, 1) := by decide +kernel
theorem dX6_termsUnreleased_42 : decode cX6_termsUnreleased 42 = .ok (.ishl, 1) := by decide +kernel
theorem dX6_termsUnreleased_43 : decode cX6_termsUnreleased 43 = .ok (.ior, 1) := by decide +kernel
theorem dX6_termsUnreleased_44 : decode cX6_termsUnreleased 44 = .ok (.istore_n 1, 1) := by decide +kernel
theorem dX6_termsUnreleased_45 : decode cX6_termsUnreleased 45 = .ok (.iinc 2 1, 3) := by decide +kernel
theorem dX6_termsUnreleased_48 : decode cX6_termsUnreleased 48 = .ok (.goto (-44), 3) := by decide +kernel
theorem dX6_termsUnreleased_51 : decode cX6_termsUnreleased 51 = .ok (.iload_n 1, 1) := by decide +kernel
theorem dX6_termsUnreleased_52 : decode cX6_termsUnreleased 52 = .ok (.ireturn, 1) := by decide +kernel
theorem dX6_placeByRelease_0 : decode cX6_placeByRelease 0 = .ok (.iconst 0, 1) := by decide +kernel
theorem dX6_placeByRelease_1 : decode cX6_placeByRelease 1 = .ok (.istore_n 2, 1) := by decide +kernel
theorem dX6_placeByRelease_2 : decode cX6_placeByRelease 2 = .ok (.iconst 0, 1) := by decide +kernel
theorem dX6_placeByRelease_3 : decode cX6_placeByRelease 3 = .ok (.istore_n 3, 1) := by decide +kernel
theorem dX6_placeByRelease_4 : decode cX6_placeByRelease 4 = .ok (.iload_n 3, 1) := by decide +kernel
theorem dX6_placeByRelease_5 : decode cX6_placeByRelease 5 = .ok (.aload_n 0, 1) := by decide +kernel
theorem dX6_placeByRelease_6 : decode cX6_placeByRelease 6 = .ok (.getfield 10, 3) := by decide +kernel
theorem dX6_placeByRelease_9 : decode cX6_placeByRelease 9 = .ok (.getfield 198, 3) := by decide +kernel
theorem dX6_placeByRelease_12 : decode cX6_placeByRelease 12 = .ok (.if_icmp .ge 33, 3) := by decide +kernel
theorem dX6_placeByRelease_15 : decode cX6_placeByRelease 15 = .ok (.aload_n 0, 1) := by decide +kernel
theorem dX6_placeByRelease_16 : decode cX6_placeByRelease 16 = .ok (.getfield 10, 3) := by decide +kernel
theorem dX6_placeByRelease_19 : decode cX6_placeByRelease 19 = .ok (.getfield 132, 3) := by decide +kernel
theorem dX6_placeByRelease_22 : decode cX6_placeByRelease 22 = .ok (.iload_n 3, 1) := by decide +kernel
theorem dX6_placeByRelease_23 : decode cX6_placeByRelease 23 = .ok (.baload, 1) := by decide +kernel
theorem dX6_placeByRelease_24 : decode cX6_placeByRelease 24 = .ok (.ifCond .ne 15, 3) := by decide +kernel
theorem dX6_placeByRelease_27 : decode cX6_placeByRelease 27 = .ok (.aload_n 0, 1) := by decide +kernel
theorem dX6_placeByRelease_28 : decode cX6_placeByRelease 28 = .ok (.iload_n 3, 1) := by decide +kernel
theorem dX6_placeByRelease_29 : decode cX6_placeByRelease 29 = .ok (.iload_n 1, 1) := by decide +kernel
theorem dX6_placeByRelease_30 : decode cX6_placeByRelease 30 = .ok (.invokevirtual 343, 3) := by decide +kernel
theorem dX6_placeByRelease_33 : decode cX6_placeByRelease 33 = .ok (.ifCond .eq 6, 3) := by decide +kernel
theorem dX6_placeByRelease_36 : decode cX6_placeByRelease 36 = .ok (.iinc 2 1, 3) := by decide +kernel
theorem dX6_placeByRelease_39 : decode cX6_placeByRelease 39 = .ok (.iinc 3 1, 3) := by decide +kernel
theorem dX6_placeByRelease_42 : decode cX6_placeByRelease 42 = .ok (.goto (-38), 3) := by decide +kernel
theorem dX6_placeByRelease_45 : decode cX6_placeByRelease 45 = .ok (.iload_n 2, 1) := by decide +kernel
theorem dX6_placeByRelease_46 : decode cX6_placeByRelease 46 = .ok (.ireturn, 1) := by decide +kernel
theorem dX6_comesBefore_0 : decode cX6_comesBefore 0 = .ok (.aload_n 0, 1) := by decide +kernel
theorem dX6_comesBefore_1 : decode cX6_comesBefore 1 = .ok (.iload_n 1, 1) := by decide +kernel
theorem dX6_comesBefore_2 : decode cX6_comesBefore 2 = .ok (.invokevirtual 136, 3) := by decide +kernel
theorem dX6_comesBefore_5 : decode cX6_comesBefore 5 = .ok (.aload_n 0, 1) := by decide +kernel
theorem dX6_comesBefore_6 : decode cX6_comesBefore 6 = .ok (.iload_n 2, 1) := by decide +kernel
theorem dX6_comesBefore_7 : decode cX6_comesBefore 7 = .ok (.invokevirtual 136, 3) := by decide +kernel
theorem dX6_comesBefore_10 : decode cX6_comesBefore 10 = .ok (.invokestatic 346, 3) := by decide +kernel
theorem dX6_comesBefore_13 : decode cX6_comesBefore 13 = .ok (.istore_n 3, 1) := by decide +kernel
theorem dX6_comesBefore_14 : decode cX6_comesBefore 14 = .ok (.iload_n 3, 1) := by decide +kernel
theorem dX6_comesBefore_15 : decode cX6_comesBefore 15 = .ok (.ifCond .eq 13, 3) := by decide +kernel
theorem dX6_comesBefore_18 : decode cX6_comesBefore 18 = .ok (.iload_n 3, 1) := by decide +kernel
theorem dX6_comesBefore_19 : decode cX6_comesBefore 19 = .ok (.ifCond .ge 7, 3) := by decide +kernel
theorem dX6_comesBefore_22 : decode cX6_comesBefore 22 = .ok (.iconst 1, 1) := by decide +kernel
theorem dX6_comesBefore_23 : decode cX6_comesBefore 23 = .ok (.goto 4, 3) := by decide +kernel
theorem dX6_comesBefore_26 : decode cX6_comesBefore 26 = .ok (.iconst 0, 1) := by decide +kernel
theorem dX6_comesBefore_27 : decode cX6_comesBefore 27 = .ok (.ireturn, 1) := by decide +kernel
theorem dX6_comesBefore_28 : decode cX6_comesBefore 28 = .ok (.aload_n 0, 1) := by decide +kernel
theorem dX6_comesBefore_29 : decode cX6_comesBefore 29 = .ok (.getfield 10, 3) := by decide +kernel
theorem dX6_comesBefore_32 : decode cX6_comesBefore 32 = .ok (.iload_n 1, 1) := by decide +kernel
theorem dX6_comesBefore_33 : decode cX6_comesBefore 33 = .ok (.invokevirtual 237, 3) := by decide +kernel
theorem dX6_comesBefore_36 : decode cX6_comesBefore 36 = .ok (.aload_n 0, 1) := by decide +kernel
theorem dX6_comesBefore_37 : decode cX6_comesBefore 37 = .ok (.getfield 10, 3) := by decide +kernel
theorem dX6_comesBefore_40 : decode cX6_comesBefore 40 = .ok (.iload_n 2, 1) := by decide +kernel
theorem dX6_comesBefore_41 : decode cX6_comesBefore 41 = .ok (.invokevirtual 237, 3) := by decide +kernel
theorem dX6_comesBefore_44 : decode cX6_comesBefore 44 = .ok (.invokestatic 346, 3) := by decide +kernel
theorem dX6_comesBefore_47 : decode cX6_comesBefore 47 = .ok (.istore 4, 2) := by decide +kernel
theorem dX6_comesBefore_49 : decode cX6_comesBefore 49 = .ok (.iload 4, 2) := by decide +kernel
theorem dX6_comesBefore_51 : decode cX6_comesBefore 51 = .ok (.ifCond .eq 16, 3) := by decide +kernel
theorem dX6_comesBefore_54 : decode cX6_comesBefore 54 = .ok (.iload 4, 2) := by decide +kernel
theorem dX6_comesBefore_56 : decode cX6_comesBefore 56 = .ok (.ifCond .ge 7, 3) := by decide +kernel
theorem dX6_comesBefore_59 : decode cX6_comesBefore 59 = .ok (.iconst 1, 1) := by decide +kernel
theorem dX6_comesBefore_60 : decode cX6_comesBefore 60 = .ok (.goto 17, 3) := by decide +kernel
theorem dX6_comesBefore_63 : decode cX6_comesBefore 63 = .ok (.iconst 0, 1) := by decide +kernel
theorem dX6_comesBefore_64 : decode cX6_comesBefore 64 = .ok (.goto 13, 3) := by decide +kernel
theorem dX6_comesBefore_67 : decode cX6_comesBefore 67 = .ok (.iload_n 1, 1) := by decide +kernel
theorem dX6_comesBefore_68 : decode cX6_comesBefore 68 = .ok (.iload_n 2, 1) := by decide +kernel
theorem dX6_comesBefore_69 : decode cX6_comesBefore 69 = .ok (.if_icmp .ge 7, 3) := by decide +kernel
theorem dX6_comesBefore_72 : decode cX6_comesBefore 72 = .ok (.iconst 1, 1) := by decide +kernel
theorem dX6_comesBefore_73 : decode cX6_comesBefore 73 = .ok (.goto 4, 3) := by decide +kernel
theorem dX6_comesBefore_76 : decode cX6_comesBefore 76 = .ok (.iconst 0, 1) := by decide +kernel
theorem dX6_comesBefore_77 : decode cX6_comesBefore 77 = .ok (.ireturn, 1) := by decide +kernel
theorem dX6_recallsMade_0 : decode cX6_recallsMade 0 = .ok (.aload_n 0, 1) := by decide +kernel
theorem dX6_recallsMade_1 : decode cX6_recallsMade 1 = .ok (.getfield 33, 3) := by decide +kernel
theorem dX6_recallsMade_4 : decode cX6_recallsMade 4 = .ok (.getfield 172, 3) := by decide +kernel
theorem dX6_recallsMade_7 : decode cX6_recallsMade 7 = .ok (.iconst 1, 1) := by decide +kernel
theorem dX6_recallsMade_8 : decode cX6_recallsMade 8 = .ok (.iadd, 1) := by decide +kernel
theorem dX6_recallsMade_9 : decode cX6_recallsMade 9 = .ok (.ireturn, 1) := by decide +kernel
theorem dX6_latestRecallEnd_0 : decode cX6_latestRecallEnd 0 = .ok (.aload_n 0, 1) := by decide +kernel
theorem dX6_latestRecallEnd_1 : decode cX6_latestRecallEnd 1 = .ok (.getfield 33, 3) := by decide +kernel
theorem dX6_latestRecallEnd_4 : decode cX6_latestRecallEnd 4 = .ok (.aload_n 0, 1) := by decide +kernel
theorem dX6_latestRecallEnd_5 : decode cX6_latestRecallEnd 5 = .ok (.getfield 26, 3) := by decide +kernel
theorem dX6_latestRecallEnd_8 : decode cX6_latestRecallEnd 8 = .ok (.aload_n 0, 1) := by decide +kernel
theorem dX6_latestRecallEnd_9 : decode cX6_latestRecallEnd 9 = .ok (.getfield 33, 3) := by decide +kernel
theorem dX6_latestRecallEnd_12 : decode cX6_latestRecallEnd 12 = .ok (.getfield 172, 3) := by decide +kernel
theorem dX6_latestRecallEnd_15 : decode cX6_latestRecallEnd 15 = .ok (.invokevirtual 349, 3) := by decide +kernel
theorem dX6_latestRecallEnd_18 : decode cX6_latestRecallEnd 18 = .ok (.invokevirtual 352, 3) := by decide +kernel
theorem dX6_latestRecallEnd_21 : decode cX6_latestRecallEnd 21 = .ok (.ireturn, 1) := by decide +kernel
theorem dX6_recallIsRunning_0 : decode cX6_recallIsRunning 0 = .ok (.aload_n 0, 1) := by decide +kernel
theorem dX6_recallIsRunning_1 : decode cX6_recallIsRunning 1 = .ok (.invokevirtual 189, 3) := by decide +kernel
theorem dX6_recallIsRunning_4 : decode cX6_recallIsRunning 4 = .ok (.ifCond .le 18, 3) := by decide +kernel
theorem dX6_recallIsRunning_7 : decode cX6_recallIsRunning 7 = .ok (.aload_n 0, 1) := by decide +kernel
theorem dX6_recallIsRunning_8 : decode cX6_recallIsRunning 8 = .ok (.invokevirtual 195, 3) := by decide +kernel
theorem dX6_recallIsRunning_11 : decode cX6_recallIsRunning 11 = .ok (.aload_n 0, 1) := by decide +kernel
theorem dX6_recallIsRunning_12 : decode cX6_recallIsRunning 12 = .ok (.getfield 92, 3) := by decide +kernel
theorem dX6_recallIsRunning_15 : decode cX6_recallIsRunning 15 = .ok (.if_icmp .le 7, 3) := by decide +kernel
theorem dX6_recallIsRunning_18 : decode cX6_recallIsRunning 18 = .ok (.iconst 1, 1) := by decide +kernel
theorem dX6_recallIsRunning_19 : decode cX6_recallIsRunning 19 = .ok (.goto 4, 3) := by decide +kernel
theorem dX6_recallIsRunning_22 : decode cX6_recallIsRunning 22 = .ok (.iconst 0, 1) := by decide +kernel
theorem dX6_recallIsRunning_23 : decode cX6_recallIsRunning 23 = .ok (.ireturn, 1) := by decide +kernel
theorem dX6_custodyEnd_0 : decode cX6_custodyEnd 0 = .ok (.aload_n 0, 1) := by decide +kernel
theorem dX6_custodyEnd_1 : decode cX6_custodyEnd 1 = .ok (.iconst 0, 1) := by decide +kernel
theorem dX6_custodyEnd_2 : decode cX6_custodyEnd 2 = .ok (.iconst 0, 1) := by decide +kernel
theorem dX6_custodyEnd_3 : decode cX6_custodyEnd 3 = .ok (.invokevirtual 243, 3) := by decide +kernel
theorem dX6_custodyEnd_6 : decode cX6_custodyEnd 6 = .ok (.istore_n 1, 1) := by decide +kernel
theorem dX6_custodyEnd_7 : decode cX6_custodyEnd 7 = .ok (.aload_n 0, 1) := by decide +kernel
theorem dX6_custodyEnd_8 : decode cX6_custodyEnd 8 = .ok (.invokevirtual 168, 3) := by decide +kernel
theorem dX6_custodyEnd_11 : decode cX6_custodyEnd 11 = .ok (.ifCond .eq 14, 3) := by decide +kernel
theorem dX6_custodyEnd_14 : decode cX6_custodyEnd 14 = .ok (.iload_n 1, 1) := by decide +kernel
theorem dX6_custodyEnd_15 : decode cX6_custodyEnd 15 = .ok (.aload_n 0, 1) := by decide +kernel
theorem dX6_custodyEnd_16 : decode cX6_custodyEnd 16 = .ok (.invokevirtual 195, 3) := by decide +kernel
theorem dX6_custodyEnd_19 : decode cX6_custodyEnd 19 = .ok (.invokestatic 252, 3) := by decide +kernel
theorem dX6_custodyEnd_22 : decode cX6_custodyEnd 22 = .ok (.goto 4, 3) := by decide +kernel
theorem dX6_custodyEnd_25 : decode cX6_custodyEnd 25 = .ok (.iload_n 1, 1) := by decide +kernel
theorem dX6_custodyEnd_26 : decode cX6_custodyEnd 26 = .ok (.ireturn, 1) := by decide +kernel
theorem dX6_currentStatus_0 : decode cX6_currentStatus 0 = .ok (.aload_n 0, 1) := by decide +kernel
theorem dX6_currentStatus_1 : decode cX6_currentStatus 1 = .ok (.invokevirtual 99, 3) := by decide +kernel
theorem dX6_currentStatus_4 : decode cX6_currentStatus 4 = .ok (.aload_n 0, 1) := by decide +kernel
theorem dX6_currentStatus_5 : decode cX6_currentStatus 5 = .ok (.getfield 92, 3) := by decide +kernel
theorem dX6_currentStatus_8 : decode cX6_currentStatus 8 = .ok (.if_icmp .le 5, 3) := by decide +kernel
theorem dX6_currentStatus_11 : decode cX6_currentStatus 11 = .ok (.iconst 2, 1) := by decide +kernel
theorem dX6_currentStatus_12 : decode cX6_currentStatus 12 = .ok (.ireturn, 1) := by decide +kernel
theorem dX6_currentStatus_13 : decode cX6_currentStatus 13 = .ok (.aload_n 0, 1) := by decide +kernel
theorem dX6_currentStatus_14 : decode cX6_currentStatus 14 = .ok (.invokevirtual 106, 3) := by decide +kernel
theorem dX6_currentStatus_17 : decode cX6_currentStatus 17 = .ok (.aload_n 0, 1) := by decide +kernel
theorem dX6_currentStatus_18 : decode cX6_currentStatus 18 = .ok (.getfield 92, 3) := by decide +kernel
theorem dX6_currentStatus_21 : decode cX6_currentStatus 21 = .ok (.if_icmp .le 7, 3) := by decide +kernel
theorem dX6_currentStatus_24 : decode cX6_currentStatus 24 = .ok (.iconst 1, 1) := by decide +kernel
theorem dX6_currentStatus_25 : decode cX6_currentStatus 25 = .ok (.goto 4, 3) := by decide +kernel
theorem dX6_currentStatus_28 : decode cX6_currentStatus 28 = .ok (.iconst 0, 1) := by decide +kernel
theorem dX6_currentStatus_29 : decode cX6_currentStatus 29 = .ok (.ireturn, 1) := by decide +kernel
theorem dX6_pastStatus_0 : decode cX6_pastStatus 0 = .ok (.aload_n 0, 1) := by decide +kernel
theorem dX6_pastStatus_1 : decode cX6_pastStatus 1 = .ok (.getfield 40, 3) := by decide +kernel
theorem dX6_pastStatus_4 : decode cX6_pastStatus 4 = .ok (.iload_n 1, 1) := by decide +kernel
theorem dX6_pastStatus_5 : decode cX6_pastStatus 5 = .ok (.invokevirtual 355, 3) := by decide +kernel
theorem dX6_pastStatus_8 : decode cX6_pastStatus 8 = .ok (.ifCond .eq 5, 3) := by decide +kernel
theorem dX6_pastStatus_11 : decode cX6_pastStatus 11 = .ok (.iconst 2, 1) := by decide +kernel
theorem dX6_pastStatus_12 : decode cX6_pastStatus 12 = .ok (.ireturn, 1) := by decide +kernel
theorem dX6_pastStatus_13 : decode cX6_pastStatus 13 = .ok (.aload_n 0, 1) := by decide +kernel
theorem dX6_pastStatus_14 : decode cX6_pastStatus 14 = .ok (.getfield 44, 3) := by decide +kernel
theorem dX6_pastStatus_17 : decode cX6_pastStatus 17 = .ok (.iload_n 1, 1) := by decide +kernel
theorem dX6_pastStatus_18 : decode cX6_pastStatus 18 = .ok (.invokevirtual 355, 3) := by decide +kernel
theorem dX6_pastStatus_21 : decode cX6_pastStatus 21 = .ok (.ifCond .eq 7, 3) := by decide +kernel
theorem dX6_pastStatus_24 : decode cX6_pastStatus 24 = .ok (.iconst 1, 1) := by decide +kernel
theorem dX6_pastStatus_25 : decode cX6_pastStatus 25 = .ok (.goto 4, 3) := by decide +kernel
theorem dX6_pastStatus_28 : decode cX6_pastStatus 28 = .ok (.iconst 0, 1) := by decide +kernel
theorem dX6_pastStatus_29 : decode cX6_pastStatus 29 = .ok (.ireturn, 1) := by decide +kernel
theorem dX6_writeRun_0 : decode cX6_writeRun 0 = .ok (.aload_n 0, 1) := by decide +kernel
theorem dX6_writeRun_1 : decode cX6_writeRun 1 = .ok (.getfield 53, 3) := by decide +kernel
theorem dX6_writeRun_4 : decode cX6_writeRun 4 = .ok (.invokevirtual 278, 3) := by decide +kernel
theorem dX6_writeRun_7 : decode cX6_writeRun 7 = .ok (.ifCond .le 13, 3) := by decide +kernel
theorem dX6_writeRun_10 : decode cX6_writeRun 10 = .ok (.aload_n 0, 1) := by decide +kernel
theorem dX6_writeRun_11 : decode cX6_writeRun 11 = .ok (.getfield 53, 3) := by decide +kernel
theorem dX6_writeRun_14 : decode cX6_writeRun 14 = .ok (.bipush 32, 2) := by decide +kernel
theorem dX6_writeRun_16 : decode cX6_writeRun 16 = .ok (.invokevirtual 358, 3) := by decide +kernel
theorem dX6_writeRun_19 : decode cX6_writeRun 19 = .ok (.pop, 1) := by decide +kernel
theorem dX6_writeRun_20 : decode cX6_writeRun 20 = .ok (.iload_n 1, 1) := by decide +kernel
theorem dX6_writeRun_21 : decode cX6_writeRun 21 = .ok (.iconst 2, 1) := by decide +kernel
theorem dX6_writeRun_22 : decode cX6_writeRun 22 = .ok (.if_icmp .ne 8, 3) := by decide +kernel
theorem dX6_writeRun_25 : decode cX6_writeRun 25 = .ok (.bipush 99, 2) := by decide +kernel
theorem dX6_writeRun_27 : decode cX6_writeRun 27 = .ok (.goto 15, 3) := by decide +kernel
theorem dX6_writeRun_30 : decode cX6_writeRun 30 = .ok (.iload_n 1, 1) := by decide +kernel
theorem dX6_writeRun_31 : decode cX6_writeRun 31 = .ok (.iconst 1, 1) := by decide +kernel
theorem dX6_writeRun_32 : decode cX6_writeRun 32 = .ok (.if_icmp .ne 8, 3) := by decide +kernel
theorem dX6_writeRun_35 : decode cX6_writeRun 35 = .ok (.bipush 108, 2) := by decide +kernel
theorem dX6_writeRun_37 : decode cX6_writeRun 37 = .ok (.goto 5, 3) := by decide +kernel
theorem dX6_writeRun_40 : decode cX6_writeRun 40 = .ok (.bipush 102, 2) := by decide +kernel
theorem dX6_writeRun_42 : decode cX6_writeRun 42 = .ok (.istore_n 3, 1) := by decide +kernel
theorem dX6_writeRun_43 : decode cX6_writeRun 43 = .ok (.aload_n 0, 1) := by decide +kernel
theorem dX6_writeRun_44 : decode cX6_writeRun 44 = .ok (.getfield 53, 3) := by decide +kernel
theorem dX6_writeRun_47 : decode cX6_writeRun 47 = .ok (.iload_n 3, 1) := by decide +kernel
theorem dX6_writeRun_48 : decode cX6_writeRun 48 = .ok (.invokevirtual 358, 3) := by decide +kernel
theorem dX6_writeRun_51 : decode cX6_writeRun 51 = .ok (.pop, 1) := by decide +kernel
theorem dX6_writeRun_52 : decode cX6_writeRun 52 = .ok (.aload_n 0, 1) := by decide +kernel
theorem dX6_writeRun_53 : decode cX6_writeRun 53 = .ok (.getfield 53, 3) := by decide +kernel
theorem dX6_writeRun_56 : decode cX6_writeRun 56 = .ok (.iload_n 2, 1) := by decide +kernel
theorem dX6_writeRun_57 : decode cX6_writeRun 57 = .ok (.invokevirtual 362, 3) := by decide +kernel
theorem dX6_writeRun_60 : decode cX6_writeRun 60 = .ok (.pop, 1) := by decide +kernel
theorem dX6_writeRun_61 : decode cX6_writeRun 61 = .ok (.return_, 1) := by decide +kernel
theorem dX7_init_0 : decode cX7_init 0 = .ok (.aload_n 0, 1) := by decide +kernel
theorem dX7_init_1 : decode cX7_init 1 = .ok (.invokespecial 1, 3) := by decide +kernel
theorem dX7_init_4 : decode cX7_init 4 = .ok (.aload_n 0, 1) := by decide +kernel
theorem dX7_init_5 : decode cX7_init 5 = .ok (.sipush 14610, 3) := by decide +kernel
theorem dX7_init_8 : decode cX7_init 8 = .ok (.newarray .byte, 2) := by decide +kernel
theorem dX7_init_10 : decode cX7_init 10 = .ok (.putfield 9, 3) := by decide +kernel
theorem dX7_init_13 : decode cX7_init 13 = .ok (.aload_n 0, 1) := by decide +kernel
theorem dX7_init_14 : decode cX7_init 14 = .ok (.sipush 14611, 3) := by decide +kernel
theorem dX7_init_17 : decode cX7_init 17 = .ok (.newarray .int, 2) := by decide +kernel
theorem dX7_init_19 : decode cX7_init 19 = .ok (.putfield 13, 3) := by decide +kernel
theorem dX7_init_22 : decode cX7_init 22 = .ok (.aload_n 0, 1) := by decide +kernel
theorem dX7_init_23 : decode cX7_init 23 = .ok (.bipush 10, 2) := by decide +kernel
theorem dX7_init_25 : decode cX7_init 25 = .ok (.newarray .int, 2) := by decide +kernel
theorem dX7_init_27 : decode cX7_init 27 = .ok (.putfield 17, 3) := by decide +kernel
theorem dX7_init_30 : decode cX7_init 30 = .ok (.aload_n 0, 1) := by decide +kernel
theorem dX7_init_31 : decode cX7_init 31 = .ok (.bipush 10, 2) := by decide +kernel
theorem dX7_init_33 : decode cX7_init 33 = .ok (.newarray .int, 2) := by decide +kernel
theorem dX7_init_35 : decode cX7_init 35 = .ok (.putfield 20, 3) := by decide +kernel
theorem dX7_init_38 : decode cX7_init 38 = .ok (.aload_n 0, 1) := by decide +kernel
theorem dX7_init_39 : decode cX7_init 39 = .ok (.bipush 10, 2) := by decide +kernel
theorem dX7_init_41 : decode cX7_init 41 = .ok (.newarray .int, 2) := by decide +kernel
theorem dX7_init_43 : decode cX7_init 43 = .ok (.putfield 23, 3) := by decide +kernel
theorem dX7_init_46 : decode cX7_init 46 = .ok (.aload_n 0, 1) := by decide +kernel
theorem dX7_init_47 : decode cX7_init 47 = .ok (.bipush 10, 2) := by decide +kernel
theorem dX7_init_49 : decode cX7_init 49 = .ok (.newarray .int, 2) := by decide +kernel
theorem dX7_init_51 : decode cX7_init 51 = .ok (.putfield 26, 3) := by decide +kernel
theorem dX7_init_54 : decode cX7_init 54 = .ok (.aload_n 0, 1) := by decide +kernel
theorem dX7_init_55 : decode cX7_init 55 = .ok (.bipush 10, 2) := by decide +kernel
theorem dX7_init_57 : decode cX7_init 57 = .ok (.newarray .int, 2) := by decide +kernel
theorem dX7_init_59 : decode cX7_init 59 = .ok (.putfield 29, 3) := by decide +kernel
theorem dX7_init_62 : decode cX7_init 62 = .ok (.aload_n 0, 1) := by decide +kernel
theorem dX7_init_63 : decode cX7_init 63 = .ok (.bipush 10, 2) := by decide +kernel
theorem dX7_init_65 : decode cX7_init 65 = .ok (.newarray .int, 2) := by decide +kernel
theorem dX7_init_67 : decode cX7_init 67 = .ok (.putfield 32, 3) := by decide +kernel
theorem dX7_init_70 : decode cX7_init 70 = .ok (.aload_n 0, 1) := by decide +kernel
theorem dX7_init_71 : decode cX7_init 71 = .ok (.bipush 10, 2) := by decide +kernel
theorem dX7_init_73 : decode cX7_init 73 = .ok (.newarray .boolean, 2) := by decide +kernel
theorem dX7_init_75 : decode cX7_init 75 = .ok (.putfield 35, 3) := by decide +kernel
theorem dX7_init_78 : decode cX7_init 78 = .ok (.aload_n 0, 1) := by decide +kernel
theorem dX7_init_79 : decode cX7_init 79 = .ok (.bipush 8, 2) := by decide +kernel
theorem dX7_init_81 : decode cX7_init 81 = .ok (.newarray .int, 2) := by decide +kernel
theorem dX7_init_83 : decode cX7_init 83 = .ok (.putfield 39, 3) := by decide +kernel
theorem dX7_init_86 : decode cX7_init 86 = .ok (.aload_n 0, 1) := by decide +kernel
theorem dX7_init_87 : decode cX7_init 87 = .ok (.bipush 8, 2) := by decide +kernel
theorem dX7_init_89 : decode cX7_init 89 = .ok (.newarray .int, 2) := by decide +kernel
theorem dX7_init_91 : decode cX7_init 91 = .ok (.putfield 42, 3) := by decide +kernel
theorem dX7_init_94 : decode cX7_init 94 = .ok (.aload_n 0, 1) := by decide +kernel
theorem dX7_init_95 : decode cX7_init 95 = .ok (.bipush 8, 2) := by decide +kernel
theorem dX7_init_97 : decode cX7_init 97 = .ok (.newarray .int, 2) := by decide +kernel
theorem dX7_init_99 : decode cX7_init 99 = .ok (.putfield 45, 3) := by decide +kernel
theorem dX7_init_102 : decode cX7_init 102 = .ok (.aload_n 0, 1) := by decide +kernel
theorem dX7_init_103 : decode cX7_init 103 = .ok (.bipush 8, 2) := by decide +kernel
theorem dX7_init_105 : decode cX7_init 105 = .ok (.newarray .int, 2) := by decide +kernel
theorem dX7_init_107 : decode cX7_init 107 = .ok (.putfield 48, 3) := by decide +kernel
theorem dX7_init_110 : decode cX7_init 110 = .ok (.aload_n 0, 1) := by decide +kernel
theorem dX7_init_111 : decode cX7_init 111 = .ok (.bipush 8, 2) := by decide +kernel
theorem dX7_init_113 : decode cX7_init 113 = .ok (.newarray .int, 2) := by decide +kernel
theorem dX7_init_115 : decode cX7_init 115 = .ok (.putfield 51, 3) := by decide +kernel
theorem dX7_init_118 : decode cX7_init 118 = .ok (.aload_n 0, 1) := by decide +kernel
theorem dX7_init_119 : decode cX7_init 119 = .ok (.bipush 8, 2) := by decide +kernel
theorem dX7_init_121 : decode cX7_init 121 = .ok (.newarray .int, 2) := by decide +kernel
theorem dX7_init_123 : decode cX7_init 123 = .ok (.putfield 54, 3) := by decide +kernel
theorem dX7_init_126 : decode cX7_init 126 = .ok (.aload_n 0, 1) := by decide +kernel
theorem dX7_init_127 : decode cX7_init 127 = .ok (.bipush 10, 2) := by decide +kernel
theorem dX7_init_129 : decode cX7_init 129 = .ok (.newarray .int, 2) := by decide +kernel
theorem dX7_init_131 : decode cX7_init 131 = .ok (.putfield 57, 3) := by decide +kernel
theorem dX7_init_134 : decode cX7_init 134 = .ok (.aload_n 0, 1) := by decide +kernel
theorem dX7_init_135 : decode cX7_init 135 = .ok (.bipush 10, 2) := by decide +kernel
theorem dX7_init_137 : decode cX7_init 137 = .ok (.newarray .int, 2) := by decide +kernel
theorem dX7_init_139 : decode cX7_init 139 = .ok (.putfield 60, 3) := by decide +kernel
theorem dX7_init_142 : decode cX7_init 142 = .ok (.aload_n 0, 1) := by decide +kernel
theorem dX7_init_143 : decode cX7_init 143 = .ok (.bipush 10, 2) := by decide +kernel
theorem dX7_init_145 : decode cX7_init 145 = .ok (.newarray .int, 2) := by decide +kernel
theorem dX7_init_147 : decode cX7_init 147 = .ok (.putfield 63, 3) := by decide +kernel
theorem dX7_init_150 : decode cX7_init 150 = .ok (.aload_n 0, 1) := by decide +kernel
theorem dX7_init_151 : decode cX7_init 151 = .ok (.bipush 10, 2) := by decide +kernel
theorem dX7_init_153 : decode cX7_init 153 = .ok (.newarray .int, 2) := by decide +kernel
theorem dX7_init_155 : decode cX7_init 155 = .ok (.putfield 66, 3) := by decide +kernel
theorem dX7_init_158 : decode cX7_init 158 = .ok (.aload_n 0, 1) := by decide +kernel
theorem dX7_init_159 : decode cX7_init 159 = .ok (.bipush 10, 2) := by decide +kernel
theorem dX7_init_161 : decode cX7_init 161 = .ok (.newarray .int, 2) := by decide +kernel
theorem dX7_init_163 : decode cX7_init 163 = .ok (.putfield 69, 3) := by decide +kernel
theorem dX7_init_166 : decode cX7_init 166 = .ok (.aload_n 0, 1) := by decide +kernel
theorem dX7_init_167 : decode cX7_init 167 = .ok (.bipush 10, 2) := by decide +kernel
theorem dX7_init_169 : decode cX7_init 169 = .ok (.newarray .int, 2) := by decide +kernel
theorem dX7_init_171 : decode cX7_init 171 = .ok (.putfield 72, 3) := by decide +kernel
theorem dX7_init_174 : decode cX7_init 174 = .ok (.aload_n 0, 1) := by decide +kernel
theorem dX7_init_175 : decode cX7_init 175 = .ok (.bipush 10, 2) := by decide +kernel
theorem dX7_init_177 : decode cX7_init 177 = .ok (.newarray .int, 2) := by decide +kernel
theorem dX7_init_179 : decode cX7_init 179 = .ok (.putfield 75, 3) := by decide +kernel
theorem dX7_init_182 : decode cX7_init 182 = .ok (.aload_n 0, 1) := by decide +kernel
theorem dX7_init_183 : decode cX7_init 183 = .ok (.bipush 10, 2) := by decide +kernel
theorem dX7_init_185 : decode cX7_init 185 = .ok (.newarray .int, 2) := by decide +kernel
theorem dX7_init_187 : decode cX7_init 187 = .ok (.putfield 78, 3) := by decide +kernel
theorem dX7_init_190 : decode cX7_init 190 = .ok (.aload_n 0, 1) := by decide +kernel
theorem dX7_init_191 : decode cX7_init 191 = .ok (.bipush 10, 2) := by decide +kernel
theorem dX7_init_193 : decode cX7_init 193 = .ok (.newarray .int, 2) := by decide +kernel
theorem dX7_init_195 : decode cX7_init 195 = .ok (.putfield 81, 3) := by decide +kernel
theorem dX7_init_198 : decode cX7_init 198 = .ok (.aload_n 0, 1) := by decide +kernel
theorem dX7_init_199 : decode cX7_init 199 = .ok (.bipush 10, 2) := by decide +kernel
theorem dX7_init_201 : decode cX7_init 201 = .ok (.newarray .int, 2) := by decide +kernel
theorem dX7_init_203 : decode cX7_init 203 = .ok (.putfield 84, 3) := by decide +kernel
theorem dX7_init_206 : decode cX7_init 206 = .ok (.aload_n 0, 1) := by decide +kernel
theorem dX7_init_207 : decode cX7_init 207 = .ok (.bipush 10, 2) := by decide +kernel
theorem dX7_init_209 : decode cX7_init 209 = .ok (.newarray .int, 2) := by decide +kernel
theorem dX7_init_211 : decode cX7_init 211 = .ok (.putfield 87, 3) := by decide +kernel
theorem dX7_init_214 : decode cX7_init 214 = .ok (.aload_n 0, 1) := by decide +kernel
theorem dX7_init_215 : decode cX7_init 215 = .ok (.bipush 10, 2) := by decide +kernel
theorem dX7_init_217 : decode cX7_init 217 = .ok (.newarray .int, 2) := by decide +kernel
theorem dX7_init_219 : decode cX7_init 219 = .ok (.putfield 90, 3) := by decide +kernel
theorem dX7_init_222 : decode cX7_init 222 = .ok (.return_, 1) := by decide +kernel
theorem dX7_thrown_0 : decode cX7_thrown 0 = .ok (.aload_n 0, 1) := by decide +kernel
theorem dX7_thrown_1 : decode cX7_thrown 1 = .ok (.getfield 93, 3) := by decide +kernel
theorem dX7_thrown_4 : decode cX7_thrown 4 = .ok (.ireturn, 1) := by decide +kernel
theorem dX7_in_0 : decode cX7_in 0 = .ok (.iload_n 0, 1) := by decide +kernel
theorem dX7_in_1 : decode cX7_in 1 = .ok (.iload_n 1, 1) := by decide +kernel
theorem dX7_in_2 : decode cX7_in 2 = .ok (.if_icmp .lt 12, 3) := by decide +kernel
theorem dX7_in_5 : decode cX7_in 5 = .ok (.iload_n 0, 1) := by decide +kernel
theorem dX7_in_6 : decode cX7_in 6 = .ok (.iload_n 2, 1) := by decide +kernel
theorem dX7_in_7 : decode cX7_in 7 = .ok (.if_icmp .gt 7, 3) := by decide +kernel
theorem dX7_in_10 : decode cX7_in 10 = .ok (.iconst 1, 1) := by decide +kernel
theorem dX7_in_11 : decode cX7_in 11 = .ok (.goto 4, 3) := by decide +kernel
theorem dX7_in_14 : decode cX7_in 14 = .ok (.iconst 0, 1) := by decide +kernel
theorem dX7_in_15 : decode cX7_in 15 = .ok (.ireturn, 1) := by decide +kernel
theorem dX7_fails_0 : decode cX7_fails 0 = .ok (.aload_n 0, 1) := by decide +kernel
theorem dX7_fails_1 : decode cX7_fails 1 = .ok (.iload_n 1, 1) := by decide +kernel
theorem dX7_fails_2 : decode cX7_fails 2 = .ok (.putfield 93, 3) := by decide +kernel
theorem dX7_fails_5 : decode cX7_fails 5 = .ok (.iload_n 1, 1) := by decide +kernel
theorem dX7_fails_6 : decode cX7_fails 6 = .ok (.ifCond .le 7, 3) := by decide +kernel
theorem dX7_fails_9 : decode cX7_fails 9 = .ok (.iconst 1, 1) := by decide +kernel
theorem dX7_fails_10 : decode cX7_fails 10 = .ok (.goto 4, 3) := by decide +kernel
theorem dX7_fails_13 : decode cX7_fails 13 = .ok (.iconst 0, 1) := by decide +kernel
theorem dX7_fails_14 : decode cX7_fails 14 = .ok (.ireturn, 1) := by decide +kernel
theorem dX7_daysOfYear_0 : decode cX7_daysOfYear 0 = .ok (.iload_n 0, 1) := by decide +kernel
theorem dX7_daysOfYear_1 : decode cX7_daysOfYear 1 = .ok (.iconst 4, 1) := by decide +kernel
theorem dX7_daysOfYear_2 : decode cX7_daysOfYear 2 = .ok (.irem, 1) := by decide +kernel
theorem dX7_daysOfYear_3 : decode cX7_daysOfYear 3 = .ok (.ifCond .ne 9, 3) := by decide +kernel
theorem dX7_daysOfYear_6 : decode cX7_daysOfYear 6 = .ok (.sipush 366, 3) := by decide +kernel
theorem dX7_daysOfYear_9 : decode cX7_daysOfYear 9 = .ok (.goto 6, 3) := by decide +kernel
theorem dX7_daysOfYear_12 : decode cX7_daysOfYear 12 = .ok (.sipush 365, 3) := by decide +kernel
theorem dX7_daysOfYear_15 : decode cX7_daysOfYear 15 = .ok (.ireturn, 1) := by decide +kernel
theorem dX7_daysOfMonth_0 : decode cX7_daysOfMonth 0 = .ok (.iload_n 1, 1) := by decide +kernel
theorem dX7_daysOfMonth_1 : decode cX7_daysOfMonth 1 = .ok (.iconst 2, 1) := by decide +kernel
theorem dX7_daysOfMonth_2 : decode cX7_daysOfMonth 2 = .ok (.if_icmp .ne 14, 3) := by decide +kernel
theorem dX7_daysOfMonth_5 : decode cX7_daysOfMonth 5 = .ok (.iload_n 0, 1) := by decide +kernel
theorem dX7_daysOfMonth_6 : decode cX7_daysOfMonth 6 = .ok (.invokestatic 97, 3) := by decide +kernel
theorem dX7_daysOfMonth_9 : decode cX7_daysOfMonth 9 = .ok (.sipush 337, 3) := by decide +kernel
theorem dX7_daysOfMonth_12 : decode cX7_daysOfMonth 12 = .ok (.isub, 1) := by decide +kernel
theorem dX7_daysOfMonth_13 : decode cX7_daysOfMonth 13 = .ok (.goto 33, 3) := by decide +kernel
theorem dX7_daysOfMonth_16 : decode cX7_daysOfMonth 16 = .ok (.iload_n 1, 1) := by decide +kernel
theorem dX7_daysOfMonth_17 : decode cX7_daysOfMonth 17 = .ok (.iconst 4, 1) := by decide +kernel
theorem dX7_daysOfMonth_18 : decode cX7_daysOfMonth 18 = .ok (.if_icmp .eq 21, 3) := by decide +kernel
theorem dX7_daysOfMonth_21 : decode cX7_daysOfMonth 21 = .ok (.iload_n 1, 1) := by decide +kernel
theorem dX7_daysOfMonth_22 : decode cX7_daysOfMonth 22 = .ok (.bipush 6, 2) := by decide +kernel
theorem dX7_daysOfMonth_24 : decode cX7_daysOfMonth 24 = .ok (.if_icmp .eq 15, 3) := by decide +kernel
theorem dX7_daysOfMonth_27 : decode cX7_daysOfMonth 27 = .ok (.iload_n 1, 1) := by decide +kernel
theorem dX7_daysOfMonth_28 : decode cX7_daysOfMonth 28 = .ok (.bipush 9, 2) := by decide +kernel
theorem dX7_daysOfMonth_30 : decode cX7_daysOfMonth 30 = .ok (.if_icmp .eq 9, 3) := by decide +kernel
theorem dX7_daysOfMonth_33 : decode cX7_daysOfMonth 33 = .ok (.iload_n 1, 1) := by decide +kernel
theorem dX7_daysOfMonth_34 : decode cX7_daysOfMonth 34 = .ok (.bipush 11, 2) := by decide +kernel
theorem dX7_daysOfMonth_36 : decode cX7_daysOfMonth 36 = .ok (.if_icmp .ne 8, 3) := by decide +kernel
theorem dX7_daysOfMonth_39 : decode cX7_daysOfMonth 39 = .ok (.bipush 30, 2) := by decide +kernel
theorem dX7_daysOfMonth_41 : decode cX7_daysOfMonth 41 = .ok (.goto 5, 3) := by decide +kernel
theorem dX7_daysOfMonth_44 : decode cX7_daysOfMonth 44 = .ok (.bipush 31, 2) := by decide +kernel
theorem dX7_daysOfMonth_46 : decode cX7_daysOfMonth 46 = .ok (.ireturn, 1) := by decide +kernel
theorem dX7_number_0 : decode cX7_number 0 = .ok (.iconst 0, 1) := by decide +kernel
theorem dX7_number_1 : decode cX7_number 1 = .ok (.istore_n 3, 1) := by decide +kernel
theorem dX7_number_2 : decode cX7_number 2 = .ok (.sipush 2000, 3) := by decide +kernel
theorem dX7_number_5 : decode cX7_number 5 = .ok (.istore 4, 2) := by decide +kernel
theorem dX7_number_7 : decode cX7_number 7 = .ok (.iload 4, 2) := by decide +kernel
theorem dX7_number_9 : decode cX7_number 9 = .ok (.iload_n 0, 1) := by decide +kernel
theorem dX7_number_10 : decode cX7_number 10 = .ok (.if_icmp .ge 17, 3) := by decide +kernel
theorem dX7_number_13 : decode cX7_number 13 = .ok (.iload_n 3, 1) := by decide +kernel
theorem dX7_number_14 : decode cX7_number 14 = .ok (.iload 4, 2) := by decide +kernel
theorem dX7_number_16 : decode cX7_number 16 = .ok (.invokestatic 97, 3) := by decide +kernel
theorem dX7_number_19 : decode cX7_number 19 = .ok (.iadd, 1) := by decide +kernel
theorem dX7_number_20 : decode cX7_number 20 = .ok (.istore_n 3, 1) := by decide +kernel
theorem dX7_number_21 : decode cX7_number 21 = .ok (.iinc 4 1, 3) := by decide +kernel
theorem dX7_number_24 : decode cX7_number 24 = .ok (.goto (-17), 3) := by decide +kernel
theorem dX7_number_27 : decode cX7_number 27 = .ok (.iconst 1, 1) := by decide +kernel
theorem dX7_number_28 : decode cX7_number 28 = .ok (.istore 4, 2) := by decide +kernel
theorem dX7_number_30 : decode cX7_number 30 = .ok (.iload 4, 2) := by decide +kernel
theorem dX7_number_32 : decode cX7_number 32 = .ok (.iload_n 1, 1) := by decide +kernel
theorem dX7_number_33 : decode cX7_number 33 = .ok (.if_icmp .ge 18, 3) := by decide +kernel
theorem dX7_number_36 : decode cX7_number 36 = .ok (.iload_n 3, 1) := by decide +kernel
theorem dX7_number_37 : decode cX7_number 37 = .ok (.iload_n 0, 1) := by decide +kernel
theorem dX7_number_38 : decode cX7_number 38 = .ok (.iload 4, 2) := by decide +kernel
theorem dX7_number_40 : decode cX7_number 40 = .ok (.invokestatic 101, 3) := by decide +kernel
theorem dX7_number_43 : decode cX7_number 43 = .ok (.iadd, 1) := by decide +kernel
theorem dX7_number_44 : decode cX7_number 44 = .ok (.istore_n 3, 1) := by decide +kernel
theorem dX7_number_45 : decode cX7_number 45 = .ok (.iinc 4 1, 3) := by decide +kernel
theorem dX7_number_48 : decode cX7_number 48 = .ok (.goto (-18), 3) := by decide +kernel
theorem dX7_number_51 : decode cX7_number 51 = .ok (.iload_n 3, 1) := by decide +kernel
theorem dX7_number_52 : decode cX7_number 52 = .ok (.iload_n 2, 1) := by decide +kernel
theorem dX7_number_53 : decode cX7_number 53 = .ok (.iadd, 1) := by decide +kernel
theorem dX7_number_54 : decode cX7_number 54 = .ok (.iconst 1, 1) := by decide +kernel
theorem dX7_number_55 : decode cX7_number 55 = .ok (.isub, 1) := by decide +kernel
theorem dX7_number_56 : decode cX7_number 56 = .ok (.ireturn, 1) := by decide +kernel
theorem dX7_splits_0 : decode cX7_splits 0 = .ok (.iload_n 1, 1) := by decide +kernel
theorem dX7_splits_1 : decode cX7_splits 1 = .ok (.istore_n 2, 1) := by decide +kernel
theorem dX7_splits_2 : decode cX7_splits 2 = .ok (.aload_n 0, 1) := by decide +kernel
theorem dX7_splits_3 : decode cX7_splits 3 = .ok (.sipush 2000, 3) := by decide +kernel
theorem dX7_splits_6 : decode cX7_splits 6 = .ok (.putfield 105, 3) := by decide +kernel
theorem dX7_splits_9 : decode cX7_splits 9 = .ok (.iload_n 2, 1) := by decide +kernel
theorem dX7_splits_10 : decode cX7_splits 10 = .ok (.aload_n 0, 1) := by decide +kernel
theorem dX7_splits_11 : decode cX7_splits 11 = .ok (.getfield 105, 3) := by decide +kernel
theorem dX7_splits_14 : decode cX7_splits 14 = .ok (.invokestatic 97, 3) := by decide +kernel
theorem dX7_splits_17 : decode cX7_splits 17 = .ok (.if_icmp .lt 26, 3) := by decide +kernel
theorem dX7_splits_20 : decode cX7_splits 20 = .ok (.iload_n 2, 1) := by decide +kernel
theorem dX7_splits_21 : decode cX7_splits 21 = .ok (.aload_n 0, 1) := by decide +kernel
theorem dX7_splits_22 : decode cX7_splits 22 = .ok (.getfield 105, 3) := by decide +kernel
theorem dX7_splits_25 : decode cX7_splits 25 = .ok (.invokestatic 97, 3) := by decide +kernel
theorem dX7_splits_28 : decode cX7_splits 28 = .ok (.isub, 1) := by decide +kernel
theorem dX7_splits_29 : decode cX7_splits 29 = .ok (.istore_n 2, 1) := by decide +kernel
theorem dX7_splits_30 : decode cX7_splits 30 = .ok (.aload_n 0, 1) := by decide +kernel
theorem dX7_splits_31 : decode cX7_splits 31 = .ok (.dup, 1) := by decide +kernel
theorem dX7_splits_32 : decode cX7_splits 32 = .ok (.getfield 105, 3) := by decide +kernel
theorem dX7_splits_35 : decode cX7_splits 35 = .ok (.iconst 1, 1) := by decide +kernel
theorem dX7_splits_36 : decode cX7_splits 36 = .ok (.iadd, 1) := by decide +kernel
theorem dX7_splits_37 : decode cX7_splits 37 = .ok (.putfield 105, 3) := by decide +kernel
theorem dX7_splits_40 : decode cX7_splits 40 = .ok (.goto (-31), 3) := by decide +kernel
theorem dX7_splits_43 : decode cX7_splits 43 = .ok (.aload_n 0, 1) := by decide +kernel
theorem dX7_splits_44 : decode cX7_splits 44 = .ok (.iconst 1, 1) := by decide +kernel
theorem dX7_splits_45 : decode cX7_splits 45 = .ok (.putfield 108, 3) := by decide +kernel
theorem dX7_splits_48 : decode cX7_splits 48 = .ok (.iload_n 2, 1) := by decide +kernel
theorem dX7_splits_49 : decode cX7_splits 49 = .ok (.aload_n 0, 1) := by decide +kernel
theorem dX7_splits_50 : decode cX7_splits 50 = .ok (.getfield 105, 3) := by decide +kernel
theorem dX7_splits_53 : decode cX7_splits 53 = .ok (.aload_n 0, 1) := by decide +kernel
theorem dX7_splits_54 : decode cX7_splits 54 = .ok (.getfield 108, 3) := by decide +kernel
theorem dX7_splits_57 : decode cX7_splits 57 = .ok (.invokestatic 101, 3) := by decide +kernel
theorem dX7_splits_60 : decode cX7_splits 60 = .ok (.if_icmp .lt 30, 3) := by decide +kernel
theorem dX7_splits_63 : decode cX7_splits 63 = .ok (.iload_n 2, 1) := by decide +kernel
theorem dX7_splits_64 : decode cX7_splits 64 = .ok (.aload_n 0, 1) := by decide +kernel
theorem dX7_splits_65 : decode cX7_splits 65 = .ok (.getfield 105, 3) := by decide +kernel
theorem dX7_splits_68 : decode cX7_splits 68 = .ok (.aload_n 0, 1) := by decide +kernel
theorem dX7_splits_69 : decode cX7_splits 69 = .ok (.getfield 108, 3) := by decide +kernel
theorem dX7_splits_72 : decode cX7_splits 72 = .ok (.invokestatic 101, 3) := by decide +kernel
theorem dX7_splits_75 : decode cX7_splits 75 = .ok (.isub, 1) := by decide +kernel
theorem dX7_splits_76 : decode cX7_splits 76 = .ok (.istore_n 2, 1) := by decide +kernel
theorem dX7_splits_77 : decode cX7_splits 77 = .ok (.aload_n 0, 1) := by decide +kernel
theorem dX7_splits_78 : decode cX7_splits 78 = .ok (.dup, 1) := by decide +kernel
theorem dX7_splits_79 : decode cX7_splits 79 = .ok (.getfield 108, 3) := by decide +kernel
theorem dX7_splits_82 : decode cX7_splits 82 = .ok (.iconst 1, 1) := by decide +kernel
theorem dX7_splits_83 : decode cX7_splits 83 = .ok (.iadd, 1) := by decide +kernel
theorem dX7_splits_84 : decode cX7_splits 84 = .ok (.putfield 108, 3) := by decide +kernel
theorem dX7_splits_87 : decode cX7_splits 87 = .ok (.goto (-39), 3) := by decide +kernel
theorem dX7_splits_90 : decode cX7_splits 90 = .ok (.aload_n 0, 1) := by decide +kernel
theorem dX7_splits_91 : decode cX7_splits 91 = .ok (.iload_n 2, 1) := by decide +kernel
theorem dX7_splits_92 : decode cX7_splits 92 = .ok (.iconst 1, 1) := by decide +kernel
theorem dX7_splits_93 : decode cX7_splits 93 = .ok (.iadd, 1) := by decide +kernel
theorem dX7_splits_94 : decode cX7_splits 94 = .ok (.putfield 111, 3) := by decide +kernel
theorem dX7_splits_97 : decode cX7_splits 97 = .ok (.return_, 1) := by decide +kernel
theorem dX7_later_0 : decode cX7_later 0 = .ok (.aload_n 0, 1) := by decide +kernel
theorem dX7_later_1 : decode cX7_later 1 = .ok (.iload_n 1, 1) := by decide +kernel
theorem dX7_later_2 : decode cX7_later 2 = .ok (.invokevirtual 114, 3) := by decide +kernel
theorem dX7_later_5 : decode cX7_later 5 = .ok (.bipush 12, 2) := by decide +kernel
theorem dX7_later_7 : decode cX7_later 7 = .ok (.aload_n 0, 1) := by decide +kernel
theorem dX7_later_8 : decode cX7_later 8 = .ok (.getfield 105, 3) := by decide +kernel
theorem dX7_later_11 : decode cX7_later 11 = .ok (.imul, 1) := by decide +kernel
theorem dX7_later_12 : decode cX7_later 12 = .ok (.aload_n 0, 1) := by decide +kernel
theorem dX7_later_13 : decode cX7_later 13 = .ok (.getfield 108, 3) := by decide +kernel
theorem dX7_later_16 : decode cX7_later 16 = .ok (.iadd, 1) := by decide +kernel
theorem dX7_later_17 : decode cX7_later 17 = .ok (.iconst 1, 1) := by decide +kernel
theorem dX7_later_18 : decode cX7_later 18 = .ok (.isub, 1) := by decide +kernel
theorem dX7_later_19 : decode cX7_later 19 = .ok (.iload_n 2, 1) := by decide +kernel
theorem dX7_later_20 : decode cX7_later 20 = .ok (.iadd, 1) := by decide +kernel
theorem dX7_later_21 : decode cX7_later 21 = .ok (.istore_n 3, 1) := by decide +kernel
theorem dX7_later_22 : decode cX7_later 22 = .ok (.iload_n 3, 1) := by decide +kernel
theorem dX7_later_23 : decode cX7_later 23 = .ok (.bipush 12, 2) := by decide +kernel
theorem dX7_later_25 : decode cX7_later 25 = .ok (.idiv, 1) := by decide +kernel
theorem dX7_later_26 : decode cX7_later 26 = .ok (.iload_n 3, 1) := by decide +kernel
theorem dX7_later_27 : decode cX7_later 27 = .ok (.bipush 12, 2) := by decide +kernel
theorem dX7_later_29 : decode cX7_later 29 = .ok (.irem, 1) := by decide +kernel
theorem dX7_later_30 : decode cX7_later 30 = .ok (.iconst 1, 1) := by decide +kernel
theorem dX7_later_31 : decode cX7_later 31 = .ok (.iadd, 1) := by decide +kernel
theorem dX7_later_32 : decode cX7_later 32 = .ok (.invokestatic 101, 3) := by decide +kernel
theorem dX7_later_35 : decode cX7_later 35 = .ok (.istore 4, 2) := by decide +kernel
theorem dX7_later_37 : decode cX7_later 37 = .ok (.iload_n 3, 1) := by decide +kernel
theorem dX7_later_38 : decode cX7_later 38 = .ok (.bipush 12, 2) := by decide +kernel
theorem dX7_later_40 : decode cX7_later 40 = .ok (.idiv, 1) := by decide +kernel
theorem dX7_later_41 : decode cX7_later 41 = .ok (.iload_n 3, 1) := by decide +kernel
theorem dX7_later_42 : decode cX7_later 42 = .ok (.bipush 12, 2) := by decide +kernel
theorem dX7_later_44 : decode cX7_later 44 = .ok (.irem, 1) := by decide +kernel
theorem dX7_later_45 : decode cX7_later 45 = .ok (.iconst 1, 1) := by decide +kernel
theorem dX7_later_46 : decode cX7_later 46 = .ok (.iadd, 1) := by decide +kernel
theorem dX7_later_47 : decode cX7_later 47 = .ok (.aload_n 0, 1) := by decide +kernel
theorem dX7_later_48 : decode cX7_later 48 = .ok (.getfield 111, 3) := by decide +kernel
theorem dX7_later_51 : decode cX7_later 51 = .ok (.iload 4, 2) := by decide +kernel
theorem dX7_later_53 : decode cX7_later 53 = .ok (.if_icmp .ge 10, 3) := by decide +kernel
theorem dX7_later_56 : decode cX7_later 56 = .ok (.aload_n 0, 1) := by decide +kernel
theorem dX7_later_57 : decode cX7_later 57 = .ok (.getfield 111, 3) := by decide +kernel
theorem dX7_later_60 : decode cX7_later 60 = .ok (.goto 5, 3) := by decide +kernel
theorem dX7_later_63 : decode cX7_later 63 = .ok (.iload 4, 2) := by decide +kernel
theorem dX7_later_65 : decode cX7_later 65 = .ok (.invokestatic 118, 3) := by decide +kernel
theorem dX7_later_68 : decode cX7_later 68 = .ok (.ireturn, 1) := by decide +kernel
theorem dX7_dayNumber_0 : decode cX7_dayNumber 0 = .ok (.iload_n 1, 1) := by decide +kernel
theorem dX7_dayNumber_1 : decode cX7_dayNumber 1 = .ok (.sipush 2000, 3) := by decide +kernel
theorem dX7_dayNumber_4 : decode cX7_dayNumber 4 = .ok (.sipush 2099, 3) := by decide +kernel
theorem dX7_dayNumber_7 : decode cX7_dayNumber 7 = .ok (.invokestatic 122, 3) := by decide +kernel
theorem dX7_dayNumber_10 : decode cX7_dayNumber 10 = .ok (.ifCond .eq 30, 3) := by decide +kernel
theorem dX7_dayNumber_13 : decode cX7_dayNumber 13 = .ok (.iload_n 2, 1) := by decide +kernel
theorem dX7_dayNumber_14 : decode cX7_dayNumber 14 = .ok (.iconst 1, 1) := by decide +kernel
theorem dX7_dayNumber_15 : decode cX7_dayNumber 15 = .ok (.bipush 12, 2) := by decide +kernel
theorem dX7_dayNumber_17 : decode cX7_dayNumber 17 = .ok (.invokestatic 122, 3) := by decide +kernel
theorem dX7_dayNumber_20 : decode cX7_dayNumber 20 = .ok (.ifCond .eq 20, 3) := by decide +kernel
theorem dX7_dayNumber_23 : decode cX7_dayNumber 23 = .ok (.iload_n 3, 1) := by decide +kernel
theorem dX7_dayNumber_24 : decode cX7_dayNumber 24 = .ok (.iconst 1, 1) := by decide +kernel
theorem dX7_dayNumber_25 : decode cX7_dayNumber 25 = .ok (.iload_n 1, 1) := by decide +kernel
theorem dX7_dayNumber_26 : decode cX7_dayNumber 26 = .ok (.iload_n 2, 1) := by decide +kernel
theorem dX7_dayNumber_27 : decode cX7_dayNumber 27 = .ok (.invokestatic 101, 3) := by decide +kernel
theorem dX7_dayNumber_30 : decode cX7_dayNumber 30 = .ok (.invokestatic 122, 3) := by decide +kernel
theorem dX7_dayNumber_33 : decode cX7_dayNumber 33 = .ok (.ifCond .eq 7, 3) := by decide +kernel
theorem dX7_dayNumber_36 : decode cX7_dayNumber 36 = .ok (.iconst 1, 1) := by decide +kernel
theorem dX7_dayNumber_37 : decode cX7_dayNumber 37 = .ok (.goto 4, 3) := by decide +kernel
theorem dX7_dayNumber_40 : decode cX7_dayNumber 40 = .ok (.iconst 0, 1) := by decide +kernel
theorem dX7_dayNumber_41 : decode cX7_dayNumber 41 = .ok (.istore 4, 2) := by decide +kernel
theorem dX7_dayNumber_43 : decode cX7_dayNumber 43 = .ok (.aload_n 0, 1) := by decide +kernel
theorem dX7_dayNumber_44 : decode cX7_dayNumber 44 = .ok (.iload 4, 2) := by decide +kernel
theorem dX7_dayNumber_46 : decode cX7_dayNumber 46 = .ok (.ifCond .eq 7, 3) := by decide +kernel
theorem dX7_dayNumber_49 : decode cX7_dayNumber 49 = .ok (.iconst 0, 1) := by decide +kernel
theorem dX7_dayNumber_50 : decode cX7_dayNumber 50 = .ok (.goto 4, 3) := by decide +kernel
theorem dX7_dayNumber_53 : decode cX7_dayNumber 53 = .ok (.iconst 1, 1) := by decide +kernel
theorem dX7_dayNumber_54 : decode cX7_dayNumber 54 = .ok (.invokevirtual 126, 3) := by decide +kernel
theorem dX7_dayNumber_57 : decode cX7_dayNumber 57 = .ok (.ifCond .eq 7, 3) := by decide +kernel
theorem dX7_dayNumber_60 : decode cX7_dayNumber 60 = .ok (.iconst 0, 1) := by decide +kernel
theorem dX7_dayNumber_61 : decode cX7_dayNumber 61 = .ok (.goto 9, 3) := by decide +kernel
theorem dX7_dayNumber_64 : decode cX7_dayNumber 64 = .ok (.iload_n 1, 1) := by decide +kernel
theorem dX7_dayNumber_65 : decode cX7_dayNumber 65 = .ok (.iload_n 2, 1) := by decide +kernel
theorem dX7_dayNumber_66 : decode cX7_dayNumber 66 = .ok (.iload_n 3, 1) := by decide +kernel
theorem dX7_dayNumber_67 : decode cX7_dayNumber 67 = .ok (.invokestatic 118, 3) := by decide +kernel
theorem dX7_dayNumber_70 : decode cX7_dayNumber 70 = .ok (.ireturn, 1) := by decide +kernel
theorem dX7_dayNumberByMonths_0 : decode cX7_dayNumberByMonths 0 = .ok (.aload_n 0, 1) := by decide +kernel
theorem dX7_dayNumberByMonths_1 : decode cX7_dayNumberByMonths 1 = .ok (.iload_n 1, 1) := by decide +kernel
theorem dX7_dayNumberByMonths_2 : decode cX7_dayNumberByMonths 2 = .ok (.iload_n 2, 1) := by decide +kernel
theorem dX7_dayNumberByMonths_3 : decode cX7_dayNumberByMonths 3 = .ok (.iload_n 3, 1) := by decide +kernel
theorem dX7_dayNumberByMonths_4 : decode cX7_dayNumberByMonths 4 = .ok (.invokevirtual 130, 3) := by decide +kernel
theorem dX7_dayNumberByMonths_7 : decode cX7_dayNumberByMonths 7 = .ok (.ireturn, 1) := by decide +kernel
theorem dX7_isDay_0 : decode cX7_isDay 0 = .ok (.iload_n 1, 1) := by decide +kernel
theorem dX7_isDay_1 : decode cX7_isDay 1 = .ok (.iconst 0, 1) := by decide +kernel
theorem dX7_isDay_2 : decode cX7_isDay 2 = .ok (.ldc 133, 2) := by decide +kernel
theorem dX7_isDay_4 : decode cX7_isDay 4 = .ok (.invokestatic 122, 3) := by decide +kernel
theorem dX7_isDay_7 : decode cX7_isDay 7 = .ok (.ireturn, 1) := by decide +kernel
theorem dX7_yearOf_0 : decode cX7_yearOf 0 = .ok (.aload_n 0, 1) := by decide +kernel
theorem dX7_yearOf_1 : decode cX7_yearOf 1 = .ok (.aload_n 0, 1) := by decide +kernel
theorem dX7_yearOf_2 : decode cX7_yearOf 2 = .ok (.iload_n 1, 1) := by decide +kernel
theorem dX7_yearOf_3 : decode cX7_yearOf 3 = .ok (.invokevirtual 134, 3) := by decide +kernel
theorem dX7_yearOf_6 : decode cX7_yearOf 6 = .ok (.ifCond .eq 7, 3) := by decide +kernel
theorem dX7_yearOf_9 : decode cX7_yearOf 9 = .ok (.iconst 0, 1) := by decide +kernel
theorem dX7_yearOf_10 : decode cX7_yearOf 10 = .ok (.goto 4, 3) := by decide +kernel
theorem dX7_yearOf_13 : decode cX7_yearOf 13 = .ok (.iconst 1, 1) := by decide +kernel
theorem dX7_yearOf_14 : decode cX7_yearOf 14 = .ok (.invokevirtual 126, 3) := by decide +kernel
theorem dX7_yearOf_17 : decode cX7_yearOf 17 = .ok (.ifCond .eq 5, 3) := by decide +kernel
theorem dX7_yearOf_20 : decode cX7_yearOf 20 = .ok (.iconst 0, 1) := by decide +kernel
theorem dX7_yearOf_21 : decode cX7_yearOf 21 = .ok (.ireturn, 1) := by decide +kernel
theorem dX7_yearOf_22 : decode cX7_yearOf 22 = .ok (.aload_n 0, 1) := by decide +kernel
theorem dX7_yearOf_23 : decode cX7_yearOf 23 = .ok (.iload_n 1, 1) := by decide +kernel
theorem dX7_yearOf_24 : decode cX7_yearOf 24 = .ok (.invokevirtual 114, 3) := by decide +kernel
theorem dX7_yearOf_27 : decode cX7_yearOf 27 = .ok (.aload_n 0, 1) := by decide +kernel
theorem dX7_yearOf_28 : decode cX7_yearOf 28 = .ok (.getfield 105, 3) := by decide +kernel
theorem dX7_yearOf_31 : decode cX7_yearOf 31 = .ok (.ireturn, 1) := by decide +kernel
theorem dX7_monthOf_0 : decode cX7_monthOf 0 = .ok (.aload_n 0, 1) := by decide +kernel
theorem dX7_monthOf_1 : decode cX7_monthOf 1 = .ok (.aload_n 0, 1) := by decide +kernel
theorem dX7_monthOf_2 : decode cX7_monthOf 2 = .ok (.iload_n 1, 1) := by decide +kernel
theorem dX7_monthOf_3 : decode cX7_monthOf 3 = .ok (.invokevirtual 134, 3) := by decide +kernel
theorem dX7_monthOf_6 : decode cX7_monthOf 6 = .ok (.ifCond .eq 7, 3) := by decide +kernel
theorem dX7_monthOf_9 : decode cX7_monthOf 9 = .ok (.iconst 0, 1) := by decide +kernel
theorem dX7_monthOf_10 : decode cX7_monthOf 10 = .ok (.goto 4, 3) := by decide +kernel
theorem dX7_monthOf_13 : decode cX7_monthOf 13 = .ok (.iconst 1, 1) := by decide +kernel
theorem dX7_monthOf_14 : decode cX7_monthOf 14 = .ok (.invokevirtual 126, 3) := by decide +kernel
theorem dX7_monthOf_17 : decode cX7_monthOf 17 = .ok (.ifCond .eq 5, 3) := by decide +kernel
theorem dX7_monthOf_20 : decode cX7_monthOf 20 = .ok (.iconst 0, 1) := by decide +kernel
theorem dX7_monthOf_21 : decode cX7_monthOf 21 = .ok (.ireturn, 1) := by decide +kernel
theorem dX7_monthOf_22 : decode cX7_monthOf 22 = .ok (.aload_n 0, 1) := by decide +kernel
theorem dX7_monthOf_23 : decode cX7_monthOf 23 = .ok (.iload_n 1, 1) := by decide +kernel
theorem dX7_monthOf_24 : decode cX7_monthOf 24 = .ok (.invokevirtual 114, 3) := by decide +kernel
theorem dX7_monthOf_27 : decode cX7_monthOf 27 = .ok (.aload_n 0, 1) := by decide +kernel
theorem dX7_monthOf_28 : decode cX7_monthOf 28 = .ok (.getfield 108, 3) := by decide +kernel
theorem dX7_monthOf_31 : decode cX7_monthOf 31 = .ok (.ireturn, 1) := by decide +kernel
theorem dX7_dayOfMonth_0 : decode cX7_dayOfMonth 0 = .ok (.aload_n 0, 1) := by decide +kernel
theorem dX7_dayOfMonth_1 : decode cX7_dayOfMonth 1 = .ok (.aload_n 0, 1) := by decide +kernel
theorem dX7_dayOfMonth_2 : decode cX7_dayOfMonth 2 = .ok (.iload_n 1, 1) := by decide +kernel
theorem dX7_dayOfMonth_3 : decode cX7_dayOfMonth 3 = .ok (.invokevirtual 134, 3) := by decide +kernel
theorem dX7_dayOfMonth_6 : decode cX7_dayOfMonth 6 = .ok (.ifCond .eq 7, 3) := by decide +kernel
theorem dX7_dayOfMonth_9 : decode cX7_dayOfMonth 9 = .ok (.iconst 0, 1) := by decide +kernel
theorem dX7_dayOfMonth_10 : decode cX7_dayOfMonth 10 = .ok (.goto 4, 3) := by decide +kernel
theorem dX7_dayOfMonth_13 : decode cX7_dayOfMonth 13 = .ok (.iconst 1, 1) := by decide +kernel
theorem dX7_dayOfMonth_14 : decode cX7_dayOfMonth 14 = .ok (.invokevirtual 126, 3) := by decide +kernel
theorem dX7_dayOfMonth_17 : decode cX7_dayOfMonth 17 = .ok (.ifCond .eq 5, 3) := by decide +kernel
theorem dX7_dayOfMonth_20 : decode cX7_dayOfMonth 20 = .ok (.iconst 0, 1) := by decide +kernel
theorem dX7_dayOfMonth_21 : decode cX7_dayOfMonth 21 = .ok (.ireturn, 1) := by decide +kernel
theorem dX7_dayOfMonth_22 : decode cX7_dayOfMonth 22 = .ok (.aload_n 0, 1) := by decide +kernel
theorem dX7_dayOfMonth_23 : decode cX7_dayOfMonth 23 = .ok (.iload_n 1, 1) := by decide +kernel
theorem dX7_dayOfMonth_24 : decode cX7_dayOfMonth 24 = .ok (.invokevirtual 114, 3) := by decide +kernel
theorem dX7_dayOfMonth_27 : decode cX7_dayOfMonth 27 = .ok (.aload_n 0, 1) := by decide +kernel
theorem dX7_dayOfMonth_28 : decode cX7_dayOfMonth 28 = .ok (.getfield 111, 3) := by decide +kernel
theorem dX7_dayOfMonth_31 : decode cX7_dayOfMonth 31 = .ok (.ireturn, 1) := by decide +kernel
theorem dX7_monthsAfter_0 : decode cX7_monthsAfter 0 = .ok (.aload_n 0, 1) := by decide +kernel
theorem dX7_monthsAfter_1 : decode cX7_monthsAfter 1 = .ok (.iload_n 1, 1) := by decide +kernel
theorem dX7_monthsAfter_2 : decode cX7_monthsAfter 2 = .ok (.invokevirtual 134, 3) := by decide +kernel
theorem dX7_monthsAfter_5 : decode cX7_monthsAfter 5 = .ok (.ifCond .eq 28, 3) := by decide +kernel
theorem dX7_monthsAfter_8 : decode cX7_monthsAfter 8 = .ok (.iload_n 2, 1) := by decide +kernel
theorem dX7_monthsAfter_9 : decode cX7_monthsAfter 9 = .ok (.iconst 0, 1) := by decide +kernel
theorem dX7_monthsAfter_10 : decode cX7_monthsAfter 10 = .ok (.bipush 60, 2) := by decide +kernel
theorem dX7_monthsAfter_12 : decode cX7_monthsAfter 12 = .ok (.invokestatic 122, 3) := by decide +kernel
theorem dX7_monthsAfter_15 : decode cX7_monthsAfter 15 = .ok (.ifCond .eq 18, 3) := by decide +kernel
theorem dX7_monthsAfter_18 : decode cX7_monthsAfter 18 = .ok (.aload_n 0, 1) := by decide +kernel
theorem dX7_monthsAfter_19 : decode cX7_monthsAfter 19 = .ok (.iload_n 1, 1) := by decide +kernel
theorem dX7_monthsAfter_20 : decode cX7_monthsAfter 20 = .ok (.iload_n 2, 1) := by decide +kernel
theorem dX7_monthsAfter_21 : decode cX7_monthsAfter 21 = .ok (.invokevirtual 137, 3) := by decide +kernel
theorem dX7_monthsAfter_24 : decode cX7_monthsAfter 24 = .ok (.ldc 133, 2) := by decide +kernel
theorem dX7_monthsAfter_26 : decode cX7_monthsAfter 26 = .ok (.if_icmp .gt 7, 3) := by decide +kernel
theorem dX7_monthsAfter_29 : decode cX7_monthsAfter 29 = .ok (.iconst 1, 1) := by decide +kernel
theorem dX7_monthsAfter_30 : decode cX7_monthsAfter 30 = .ok (.goto 4, 3) := by decide +kernel
theorem dX7_monthsAfter_33 : decode cX7_monthsAfter 33 = .ok (.iconst 0, 1) := by decide +kernel
theorem dX7_monthsAfter_34 : decode cX7_monthsAfter 34 = .ok (.istore_n 3, 1) := by decide +kernel
theorem dX7_monthsAfter_35 : decode cX7_monthsAfter 35 = .ok (.aload_n 0, 1) := by decide +kernel
theorem dX7_monthsAfter_36 : decode cX7_monthsAfter 36 = .ok (.iload_n 3, 1) := by decide +kernel
theorem dX7_monthsAfter_37 : decode cX7_monthsAfter 37 = .ok (.ifCond .eq 7, 3) := by decide +kernel
theorem dX7_monthsAfter_40 : decode cX7_monthsAfter 40 = .ok (.iconst 0, 1) := by decide +kernel
theorem dX7_monthsAfter_41 : decode cX7_monthsAfter 41 = .ok (.goto 4, 3) := by decide +kernel
theorem dX7_monthsAfter_44 : decode cX7_monthsAfter 44 = .ok (.iconst 1, 1) := by decide +kernel
theorem dX7_monthsAfter_45 : decode cX7_monthsAfter 45 = .ok (.invokevirtual 126, 3) := by decide +kernel
theorem dX7_monthsAfter_48 : decode cX7_monthsAfter 48 = .ok (.ifCond .eq 7, 3) := by decide +kernel
theorem dX7_monthsAfter_51 : decode cX7_monthsAfter 51 = .ok (.iconst 0, 1) := by decide +kernel
theorem dX7_monthsAfter_52 : decode cX7_monthsAfter 52 = .ok (.goto 9, 3) := by decide +kernel
theorem dX7_monthsAfter_55 : decode cX7_monthsAfter 55 = .ok (.aload_n 0, 1) := by decide +kernel
theorem dX7_monthsAfter_56 : decode cX7_monthsAfter 56 = .ok (.iload_n 1, 1) := by decide +kernel
theorem dX7_monthsAfter_57 : decode cX7_monthsAfter 57 = .ok (.iload_n 2, 1) := by decide +kernel
theorem dX7_monthsAfter_58 : decode cX7_monthsAfter 58 = .ok (.invokevirtual 137, 3) := by decide +kernel
theorem dX7_monthsAfter_61 : decode cX7_monthsAfter 61 = .ok (.ireturn, 1) := by decide +kernel
theorem dX7_isTerm_0 : decode cX7_isTerm 0 = .ok (.iload_n 1, 1) := by decide +kernel
theorem dX7_isTerm_1 : decode cX7_isTerm 1 = .ok (.iconst 0, 1) := by decide +kernel
theorem dX7_isTerm_2 : decode cX7_isTerm 2 = .ok (.aload_n 0, 1) := by decide +kernel
theorem dX7_isTerm_3 : decode cX7_isTerm 3 = .ok (.getfield 140, 3) := by decide +kernel
theorem dX7_isTerm_6 : decode cX7_isTerm 6 = .ok (.iconst 1, 1) := by decide +kernel
theorem dX7_isTerm_7 : decode cX7_isTerm 7 = .ok (.isub, 1) := by decide +kernel
theorem dX7_isTerm_8 : decode cX7_isTerm 8 = .ok (.invokestatic 122, 3) := by decide +kernel
theorem dX7_isTerm_11 : decode cX7_isTerm 11 = .ok (.ireturn, 1) := by decide +kernel
theorem dX7_isIn_0 : decode cX7_isIn 0 = .ok (.aload_n 0, 1) := by decide +kernel
theorem dX7_isIn_1 : decode cX7_isIn 1 = .ok (.getfield 35, 3) := by decide +kernel
theorem dX7_isIn_4 : decode cX7_isIn 4 = .ok (.iload_n 1, 1) := by decide +kernel
theorem dX7_isIn_5 : decode cX7_isIn 5 = .ok (.baload, 1) := by decide +kernel
theorem dX7_isIn_6 : decode cX7_isIn 6 = .ok (.ifCond .ne 7, 3) := by decide +kernel
theorem dX7_isIn_9 : decode cX7_isIn 9 = .ok (.iconst 1, 1) := by decide +kernel
theorem dX7_isIn_10 : decode cX7_isIn 10 = .ok (.goto 4, 3) := by decide +kernel
theorem dX7_isIn_13 : decode cX7_isIn 13 = .ok (.iconst 0, 1) := by decide +kernel
theorem dX7_isIn_14 : decode cX7_isIn 14 = .ok (.ireturn, 1) := by decide +kernel
theorem dX7_partOf_0 : decode cX7_partOf 0 = .ok (.iload_n 1, 1) := by decide +kernel
theorem dX7_partOf_1 : decode cX7_partOf 1 = .ok (.iconst 1, 1) := by decide +kernel
theorem dX7_partOf_2 : decode cX7_partOf 2 = .ok (.iadd, 1) := by decide +kernel
theorem dX7_partOf_3 : decode cX7_partOf 3 = .ok (.iconst 2, 1) := by decide +kernel
theorem dX7_partOf_4 : decode cX7_partOf 4 = .ok (.idiv, 1) := by decide +kernel
theorem dX7_partOf_5 : decode cX7_partOf 5 = .ok (.istore_n 2, 1) := by decide +kernel
theorem dX7_partOf_6 : decode cX7_partOf 6 = .ok (.iload_n 0, 1) := by decide +kernel
theorem dX7_partOf_7 : decode cX7_partOf 7 = .ok (.tableswitch 37 0 2 #[25, 27, 35], 25) := by decide +kernel
theorem dX7_partOf_32 : decode cX7_partOf 32 = .ok (.iload_n 2, 1) := by decide +kernel
theorem dX7_partOf_33 : decode cX7_partOf 33 = .ok (.ireturn, 1) := by decide +kernel
theorem dX7_partOf_34 : decode cX7_partOf 34 = .ok (.iconst 2, 1) := by decide +kernel
theorem dX7_partOf_35 : decode cX7_partOf 35 = .ok (.iload_n 1, 1) := by decide +kernel
theorem dX7_partOf_36 : decode cX7_partOf 36 = .ok (.imul, 1) := by decide +kernel
theorem dX7_partOf_37 : decode cX7_partOf 37 = .ok (.iconst 2, 1) := by decide +kernel
theorem dX7_partOf_38 : decode cX7_partOf 38 = .ok (.iadd, 1) := by decide +kernel
theorem dX7_partOf_39 : decode cX7_partOf 39 = .ok (.iconst 3, 1) := by decide +kernel
theorem dX7_partOf_40 : decode cX7_partOf 40 = .ok (.idiv, 1) := by decide +kernel
theorem dX7_partOf_41 : decode cX7_partOf 41 = .ok (.ireturn, 1) := by decide +kernel
theorem dX7_partOf_42 : decode cX7_partOf 42 = .ok (.iload_n 1, 1) := by decide +kernel
theorem dX7_partOf_43 : decode cX7_partOf 43 = .ok (.ireturn, 1) := by decide +kernel
theorem dX7_partOf_44 : decode cX7_partOf 44 = .ok (.iload_n 2, 1) := by decide +kernel
theorem dX7_partOf_45 : decode cX7_partOf 45 = .ok (.bipush 30, 2) := by decide +kernel
theorem dX7_partOf_47 : decode cX7_partOf 47 = .ok (.if_icmp .lt 7, 3) := by decide +kernel
theorem dX7_partOf_50 : decode cX7_partOf 50 = .ok (.iload_n 2, 1) := by decide +kernel
theorem dX7_partOf_51 : decode cX7_partOf 51 = .ok (.goto 15, 3) := by decide +kernel
theorem dX7_partOf_54 : decode cX7_partOf 54 = .ok (.iload_n 1, 1) := by decide +kernel
theorem dX7_partOf_55 : decode cX7_partOf 55 = .ok (.bipush 30, 2) := by decide +kernel
theorem dX7_partOf_57 : decode cX7_partOf 57 = .ok (.if_icmp .ge 7, 3) := by decide +kernel
theorem dX7_partOf_60 : decode cX7_partOf 60 = .ok (.iload_n 1, 1) := by decide +kernel
theorem dX7_partOf_61 : decode cX7_partOf 61 = .ok (.goto 5, 3) := by decide +kernel
theorem dX7_partOf_64 : decode cX7_partOf 64 = .ok (.bipush 30, 2) := by decide +kernel
theorem dX7_partOf_66 : decode cX7_partOf 66 = .ok (.ireturn, 1) := by decide +kernel
theorem dX7_isInChain_0 : decode cX7_isInChain 0 = .ok (.iconst 0, 1) := by decide +kernel
theorem dX7_isInChain_1 : decode cX7_isInChain 1 = .ok (.istore_n 3, 1) := by decide +kernel
theorem dX7_isInChain_2 : decode cX7_isInChain 2 = .ok (.iload_n 2, 1) := by decide +kernel
theorem dX7_isInChain_3 : decode cX7_isInChain 3 = .ok (.istore 4, 2) := by decide +kernel
theorem dX7_isInChain_5 : decode cX7_isInChain 5 = .ok (.iload 4, 2) := by decide +kernel
theorem dX7_isInChain_7 : decode cX7_isInChain 7 = .ok (.iconst (-1), 1) := by decide +kernel
theorem dX7_isInChain_8 : decode cX7_isInChain 8 = .ok (.if_icmp .eq 31, 3) := by decide +kernel
theorem dX7_isInChain_11 : decode cX7_isInChain 11 = .ok (.iload_n 3, 1) := by decide +kernel
theorem dX7_isInChain_12 : decode cX7_isInChain 12 = .ok (.ifCond .ne 9, 3) := by decide +kernel
theorem dX7_isInChain_15 : decode cX7_isInChain 15 = .ok (.iload 4, 2) := by decide +kernel
theorem dX7_isInChain_17 : decode cX7_isInChain 17 = .ok (.iload_n 1, 1) := by decide +kernel
theorem dX7_isInChain_18 : decode cX7_isInChain 18 = .ok (.if_icmp .ne 7, 3) := by decide +kernel
theorem dX7_isInChain_21 : decode cX7_isInChain 21 = .ok (.iconst 1, 1) := by decide +kernel
theorem dX7_isInChain_22 : decode cX7_isInChain 22 = .ok (.goto 4, 3) := by decide +kernel
theorem dX7_isInChain_25 : decode cX7_isInChain 25 = .ok (.iconst 0, 1) := by decide +kernel
theorem dX7_isInChain_26 : decode cX7_isInChain 26 = .ok (.istore_n 3, 1) := by decide +kernel
theorem dX7_isInChain_27 : decode cX7_isInChain 27 = .ok (.aload_n 0, 1) := by decide +kernel
theorem dX7_isInChain_28 : decode cX7_isInChain 28 = .ok (.getfield 32, 3) := by decide +kernel
theorem dX7_isInChain_31 : decode cX7_isInChain 31 = .ok (.iload 4, 2) := by decide +kernel
theorem dX7_isInChain_33 : decode cX7_isInChain 33 = .ok (.iaload, 1) := by decide +kernel
theorem dX7_isInChain_34 : decode cX7_isInChain 34 = .ok (.istore 4, 2) := by decide +kernel
theorem dX7_isInChain_36 : decode cX7_isInChain 36 = .ok (.goto (-31), 3) := by decide +kernel
theorem dX7_isInChain_39 : decode cX7_isInChain 39 = .ok (.iload_n 3, 1) := by decide +kernel
theorem dX7_isInChain_40 : decode cX7_isInChain 40 = .ok (.ireturn, 1) := by decide +kernel
theorem dX7_chainSize_0 : decode cX7_chainSize 0 = .ok (.iconst 0, 1) := by decide +kernel
theorem dX7_chainSize_1 : decode cX7_chainSize 1 = .ok (.istore_n 2, 1) := by decide +kernel
theorem dX7_chainSize_2 : decode cX7_chainSize 2 = .ok (.iload_n 1, 1) := by decide +kernel
theorem dX7_chainSize_3 : decode cX7_chainSize 3 = .ok (.istore_n 3, 1) := by decide +kernel
theorem dX7_chainSize_4 : decode cX7_chainSize 4 = .ok (.iload_n 3, 1) := by decide +kernel
theorem dX7_chainSize_5 : decode cX7_chainSize 5 = .ok (.iconst (-1), 1) := by decide +kernel
theorem dX7_chainSize_6 : decode cX7_chainSize 6 = .ok (.if_icmp .eq 16, 3) := by decide +kernel
theorem dX7_chainSize_9 : decode cX7_chainSize 9 = .ok (.iinc 2 1, 3) := by decide +kernel
theorem dX7_chainSize_12 : decode cX7_chainSize 12 = .ok (.aload_n 0, 1) := by decide +kernel
theorem dX7_chainSize_13 : decode cX7_chainSize 13 = .ok (.getfield 32, 3) := by decide +kernel
theorem dX7_chainSize_16 : decode cX7_chainSize 16 = .ok (.iload_n 3, 1) := by decide +kernel
theorem dX7_chainSize_17 : decode cX7_chainSize 17 = .ok (.iaload, 1) := by decide +kernel
theorem dX7_chainSize_18 : decode cX7_chainSize 18 = .ok (.istore_n 3, 1) := by decide +kernel
theorem dX7_chainSize_19 : decode cX7_chainSize 19 = .ok (.goto (-15), 3) := by decide +kernel
theorem dX7_chainSize_22 : decode cX7_chainSize 22 = .ok (.iload_n 2, 1) := by decide +kernel
theorem dX7_chainSize_23 : decode cX7_chainSize 23 = .ok (.ireturn, 1) := by decide +kernel
theorem dX7_nextPeriod_0 : decode cX7_nextPeriod 0 = .ok (.iconst (-1), 1) := by decide +kernel
theorem dX7_nextPeriod_1 : decode cX7_nextPeriod 1 = .ok (.istore_n 3, 1) := by decide +kernel
theorem dX7_nextPeriod_2 : decode cX7_nextPeriod 2 = .ok (.iconst 0, 1) := by decide +kernel
theorem dX7_nextPeriod_3 : decode cX7_nextPeriod 3 = .ok (.istore 4, 2) := by decide +kernel
theorem dX7_nextPeriod_5 : decode cX7_nextPeriod 5 = .ok (.iload 4, 2) := by decide +kernel
theorem dX7_nextPeriod_7 : decode cX7_nextPeriod 7 = .ok (.aload_n 0, 1) := by decide +kernel
theorem dX7_nextPeriod_8 : decode cX7_nextPeriod 8 = .ok (.getfield 143, 3) := by decide +kernel
theorem dX7_nextPeriod_11 : decode cX7_nextPeriod 11 = .ok (.if_icmp .ge 73, 3) := by decide +kernel
theorem dX7_nextPeriod_14 : decode cX7_nextPeriod 14 = .ok (.iload_n 2, 1) := by decide +kernel
theorem dX7_nextPeriod_15 : decode cX7_nextPeriod 15 = .ok (.iload 4, 2) := by decide +kernel
theorem dX7_nextPeriod_17 : decode cX7_nextPeriod 17 = .ok (.ishr, 1) := by decide +kernel
theorem dX7_nextPeriod_18 : decode cX7_nextPeriod 18 = .ok (.iconst 1, 1) := by decide +kernel
theorem dX7_nextPeriod_19 : decode cX7_nextPeriod 19 = .ok (.iand, 1) := by decide +kernel
theorem dX7_nextPeriod_20 : decode cX7_nextPeriod 20 = .ok (.ifCond .ne 22, 3) := by decide +kernel
theorem dX7_nextPeriod_23 : decode cX7_nextPeriod 23 = .ok (.aload_n 0, 1) := by decide +kernel
theorem dX7_nextPeriod_24 : decode cX7_nextPeriod 24 = .ok (.aload_n 0, 1) := by decide +kernel
theorem dX7_nextPeriod_25 : decode cX7_nextPeriod 25 = .ok (.getfield 39, 3) := by decide +kernel
theorem dX7_nextPeriod_28 : decode cX7_nextPeriod 28 = .ok (.iload 4, 2) := by decide +kernel
theorem dX7_nextPeriod_30 : decode cX7_nextPeriod 30 = .ok (.iaload, 1) := by decide +kernel
theorem dX7_nextPeriod_31 : decode cX7_nextPeriod 31 = .ok (.iload_n 1, 1) := by decide +kernel
theorem dX7_nextPeriod_32 : decode cX7_nextPeriod 32 = .ok (.invokevirtual 146, 3) := by decide +kernel
theorem dX7_nextPeriod_35 : decode cX7_nextPeriod 35 = .ok (.ifCond .eq 7, 3) := by decide +kernel
theorem dX7_nextPeriod_38 : decode cX7_nextPeriod 38 = .ok (.iconst 1, 1) := by decide +kernel
theorem dX7_nextPeriod_39 : decode cX7_nextPeriod 39 = .ok (.goto 4, 3) := by decide +kernel
theorem dX7_nextPeriod_42 : decode cX7_nextPeriod 42 = .ok (.iconst 0, 1) := by decide +kernel
theorem dX7_nextPeriod_43 : decode cX7_nextPeriod 43 = .ok (.istore 5, 2) := by decide +kernel
theorem dX7_nextPeriod_45 : decode cX7_nextPeriod 45 = .ok (.iload 5, 2) := by decide +kernel
theorem dX7_nextPeriod_47 : decode cX7_nextPeriod 47 = .ok (.ifCond .eq 29, 3) := by decide +kernel
theorem dX7_nextPeriod_50 : decode cX7_nextPeriod 50 = .ok (.iload_n 3, 1) := by decide +kernel
theorem dX7_nextPeriod_51 : decode cX7_nextPeriod 51 = .ok (.iconst (-1), 1) := by decide +kernel
theorem dX7_nextPeriod_52 : decode cX7_nextPeriod 52 = .ok (.if_icmp .eq 19, 3) := by decide +kernel
theorem dX7_nextPeriod_55 : decode cX7_nextPeriod 55 = .ok (.aload_n 0, 1) := by decide +kernel
theorem dX7_nextPeriod_56 : decode cX7_nextPeriod 56 = .ok (.getfield 42, 3) := by decide +kernel
theorem dX7_nextPeriod_59 : decode cX7_nextPeriod 59 = .ok (.iload 4, 2) := by decide +kernel
theorem dX7_nextPeriod_61 : decode cX7_nextPeriod 61 = .ok (.iaload, 1) := by decide +kernel
theorem dX7_nextPeriod_62 : decode cX7_nextPeriod 62 = .ok (.aload_n 0, 1) := by decide +kernel
theorem dX7_nextPeriod_63 : decode cX7_nextPeriod 63 = .ok (.getfield 42, 3) := by decide +kernel
theorem dX7_nextPeriod_66 : decode cX7_nextPeriod 66 = .ok (.iload_n 3, 1) := by decide +kernel
theorem dX7_nextPeriod_67 : decode cX7_nextPeriod 67 = .ok (.iaload, 1) := by decide +kernel
theorem dX7_nextPeriod_68 : decode cX7_nextPeriod 68 = .ok (.if_icmp .ge 8, 3) := by decide +kernel
theorem dX7_nextPeriod_71 : decode cX7_nextPeriod 71 = .ok (.iload 4, 2) := by decide +kernel
theorem dX7_nextPeriod_73 : decode cX7_nextPeriod 73 = .ok (.goto 4, 3) := by decide +kernel
theorem dX7_nextPeriod_76 : decode cX7_nextPeriod 76 = .ok (.iload_n 3, 1) := by decide +kernel
theorem dX7_nextPeriod_77 : decode cX7_nextPeriod 77 = .ok (.istore_n 3, 1) := by decide +kernel
theorem dX7_nextPeriod_78 : decode cX7_nextPeriod 78 = .ok (.iinc 4 1, 3) := by decide +kernel
theorem dX7_nextPeriod_81 : decode cX7_nextPeriod 81 = .ok (.goto (-76), 3) := by decide +kernel
theorem dX7_nextPeriod_84 : decode cX7_nextPeriod 84 = .ok (.iload_n 3, 1) := by decide +kernel
theorem dX7_nextPeriod_85 : decode cX7_nextPeriod 85 = .ok (.ireturn, 1) := by decide +kernel
theorem dX7_remandOf_0 : decode cX7_remandOf 0 = .ok (.iconst 0, 1) := by decide +kernel
theorem dX7_remandOf_1 : decode cX7_remandOf 1 = .ok (.istore_n 2, 1) := by decide +kernel
theorem dX7_remandOf_2 : decode cX7_remandOf 2 = .ok (.iconst 0, 1) := by decide +kernel
theorem dX7_remandOf_3 : decode cX7_remandOf 3 = .ok (.istore_n 3, 1) := by decide +kernel
theorem dX7_remandOf_4 : decode cX7_remandOf 4 = .ok (.iconst 0, 1) := by decide +kernel
theorem dX7_remandOf_5 : decode cX7_remandOf 5 = .ok (.istore 4, 2) := by decide +kernel
theorem dX7_remandOf_7 : decode cX7_remandOf 7 = .ok (.aload_n 0, 1) := by decide +kernel
theorem dX7_remandOf_8 : decode cX7_remandOf 8 = .ok (.iload_n 1, 1) := by decide +kernel
theorem dX7_remandOf_9 : decode cX7_remandOf 9 = .ok (.iload_n 3, 1) := by decide +kernel
theorem dX7_remandOf_10 : decode cX7_remandOf 10 = .ok (.invokevirtual 150, 3) := by decide +kernel
theorem dX7_remandOf_13 : decode cX7_remandOf 13 = .ok (.istore 5, 2) := by decide +kernel
theorem dX7_remandOf_15 : decode cX7_remandOf 15 = .ok (.iload 5, 2) := by decide +kernel
theorem dX7_remandOf_17 : decode cX7_remandOf 17 = .ok (.iconst (-1), 1) := by decide +kernel
theorem dX7_remandOf_18 : decode cX7_remandOf 18 = .ok (.if_icmp .eq 103, 3) := by decide +kernel
theorem dX7_remandOf_21 : decode cX7_remandOf 21 = .ok (.aload_n 0, 1) := by decide +kernel
theorem dX7_remandOf_22 : decode cX7_remandOf 22 = .ok (.getfield 42, 3) := by decide +kernel
theorem dX7_remandOf_25 : decode cX7_remandOf 25 = .ok (.iload 5, 2) := by decide +kernel
theorem dX7_remandOf_27 : decode cX7_remandOf 27 = .ok (.iaload, 1) := by decide +kernel
theorem dX7_remandOf_28 : decode cX7_remandOf 28 = .ok (.iload 4, 2) := by decide +kernel
theorem dX7_remandOf_30 : decode cX7_remandOf 30 = .ok (.if_icmp .le 13, 3) := by decide +kernel
theorem dX7_remandOf_33 : decode cX7_remandOf 33 = .ok (.aload_n 0, 1) := by decide +kernel
theorem dX7_remandOf_34 : decode cX7_remandOf 34 = .ok (.getfield 42, 3) := by decide +kernel
theorem dX7_remandOf_37 : decode cX7_remandOf 37 = .ok (.iload 5, 2) := by decide +kernel
theorem dX7_remandOf_39 : decode cX7_remandOf 39 = .ok (.iaload, 1) := by decide +kernel
theorem dX7_remandOf_40 : decode cX7_remandOf 40 = .ok (.goto 5, 3) := by decide +kernel
theorem dX7_remandOf_43 : decode cX7_remandOf 43 = .ok (.iload 4, 2) := by decide +kernel
theorem dX7_remandOf_45 : decode cX7_remandOf 45 = .ok (.istore 6, 2) := by decide +kernel
theorem dX7_remandOf_47 : decode cX7_remandOf 47 = .ok (.aload_n 0, 1) := by decide +kernel
theorem dX7_remandOf_48 : decode cX7_remandOf 48 = .ok (.getfield 45, 3) := by decide +kernel
theorem dX7_remandOf_51 : decode cX7_remandOf 51 = .ok (.iload 5, 2) := by decide +kernel
theorem dX7_remandOf_53 : decode cX7_remandOf 53 = .ok (.iaload, 1) := by decide +kernel
theorem dX7_remandOf_54 : decode cX7_remandOf 54 = .ok (.iconst 1, 1) := by decide +kernel
theorem dX7_remandOf_55 : decode cX7_remandOf 55 = .ok (.iadd, 1) := by decide +kernel
theorem dX7_remandOf_56 : decode cX7_remandOf 56 = .ok (.istore 7, 2) := by decide +kernel
theorem dX7_remandOf_58 : decode cX7_remandOf 58 = .ok (.iload_n 2, 1) := by decide +kernel
theorem dX7_remandOf_59 : decode cX7_remandOf 59 = .ok (.iload 7, 2) := by decide +kernel
theorem dX7_remandOf_61 : decode cX7_remandOf 61 = .ok (.iload 6, 2) := by decide +kernel
theorem dX7_remandOf_63 : decode cX7_remandOf 63 = .ok (.if_icmp .le 21, 3) := by decide +kernel
theorem dX7_remandOf_66 : decode cX7_remandOf 66 = .ok (.aload_n 0, 1) := by decide +kernel
theorem dX7_remandOf_67 : decode cX7_remandOf 67 = .ok (.getfield 13, 3) := by decide +kernel
theorem dX7_remandOf_70 : decode cX7_remandOf 70 = .ok (.iload 7, 2) := by decide +kernel
theorem dX7_remandOf_72 : decode cX7_remandOf 72 = .ok (.iaload, 1) := by decide +kernel
theorem dX7_remandOf_73 : decode cX7_remandOf 73 = .ok (.aload_n 0, 1) := by decide +kernel
theorem dX7_remandOf_74 : decode cX7_remandOf 74 = .ok (.getfield 13, 3) := by decide +kernel
theorem dX7_remandOf_77 : decode cX7_remandOf 77 = .ok (.iload 6, 2) := by decide +kernel
theorem dX7_remandOf_79 : decode cX7_remandOf 79 = .ok (.iaload, 1) := by decide +kernel
theorem dX7_remandOf_80 : decode cX7_remandOf 80 = .ok (.isub, 1) := by decide +kernel
theorem dX7_remandOf_81 : decode cX7_remandOf 81 = .ok (.goto 4, 3) := by decide +kernel
theorem dX7_remandOf_84 : decode cX7_remandOf 84 = .ok (.iconst 0, 1) := by decide +kernel
theorem dX7_remandOf_85 : decode cX7_remandOf 85 = .ok (.iadd, 1) := by decide +kernel
theorem dX7_remandOf_86 : decode cX7_remandOf 86 = .ok (.istore_n 2, 1) := by decide +kernel
theorem dX7_remandOf_87 : decode cX7_remandOf 87 = .ok (.iload 7, 2) := by decide +kernel
theorem dX7_remandOf_89 : decode cX7_remandOf 89 = .ok (.iload 4, 2) := by decide +kernel
theorem dX7_remandOf_91 : decode cX7_remandOf 91 = .ok (.if_icmp .le 8, 3) := by decide +kernel
theorem dX7_remandOf_94 : decode cX7_remandOf 94 = .ok (.iload 7, 2) := by decide +kernel
theorem dX7_remandOf_96 : decode cX7_remandOf 96 = .ok (.goto 5, 3) := by decide +kernel
theorem dX7_remandOf_99 : decode cX7_remandOf 99 = .ok (.iload 4, 2) := by decide +kernel
theorem dX7_remandOf_101 : decode cX7_remandOf 101 = .ok (.istore 4, 2) := by decide +kernel
theorem dX7_remandOf_103 : decode cX7_remandOf 103 = .ok (.iload_n 3, 1) := by decide +kernel
theorem dX7_remandOf_104 : decode cX7_remandOf 104 = .ok (.iconst 1, 1) := by decide +kernel
theorem dX7_remandOf_105 : decode cX7_remandOf 105 = .ok (.iload 5, 2) := by decide +kernel
theorem dX7_remandOf_107 : decode cX7_remandOf 107 = .ok (.ishl, 1) := by decide +kernel
theorem dX7_remandOf_108 : decode cX7_remandOf 108 = .ok (.ior, 1) := by decide +kernel
theorem dX7_remandOf_109 : decode cX7_remandOf 109 = .ok (.istore_n 3, 1) := by decide +kernel
theorem dX7_remandOf_110 : decode cX7_remandOf 110 = .ok (.aload_n 0, 1) := by decide +kernel
theorem dX7_remandOf_111 : decode cX7_remandOf 111 = .ok (.iload_n 1, 1) := by decide +kernel
theorem dX7_remandOf_112 : decode cX7_remandOf 112 = .ok (.iload_n 3, 1) := by decide +kernel
theorem dX7_remandOf_113 : decode cX7_remandOf 113 = .ok (.invokevirtual 150, 3) := by decide +kernel
theorem dX7_remandOf_116 : decode cX7_remandOf 116 = .ok (.istore 5, 2) := by decide +kernel
theorem dX7_remandOf_118 : decode cX7_remandOf 118 = .ok (.goto (-103), 3) := by decide +kernel
theorem dX7_remandOf_121 : decode cX7_remandOf 121 = .ok (.iload_n 2, 1) := by decide +kernel
theorem dX7_remandOf_122 : decode cX7_remandOf 122 = .ok (.ireturn, 1) := by decide +kernel
theorem dX7_addedTo_0 : decode cX7_addedTo 0 = .ok (.iconst 0, 1) := by decide +kernel
theorem dX7_addedTo_1 : decode cX7_addedTo 1 = .ok (.istore_n 2, 1) := by decide +kernel
theorem dX7_addedTo_2 : decode cX7_addedTo 2 = .ok (.iconst 0, 1) := by decide +kernel
theorem dX7_addedTo_3 : decode cX7_addedTo 3 = .ok (.istore_n 3, 1) := by decide +kernel
theorem dX7_addedTo_4 : decode cX7_addedTo 4 = .ok (.iload_n 3, 1) := by decide +kernel
theorem dX7_addedTo_5 : decode cX7_addedTo 5 = .ok (.aload_n 0, 1) := by decide +kernel
theorem dX7_addedTo_6 : decode cX7_addedTo 6 = .ok (.getfield 153, 3) := by decide +kernel
theorem dX7_addedTo_9 : decode cX7_addedTo 9 = .ok (.if_icmp .ge 78, 3) := by decide +kernel
theorem dX7_addedTo_12 : decode cX7_addedTo 12 = .ok (.iconst 0, 1) := by decide +kernel
theorem dX7_addedTo_13 : decode cX7_addedTo 13 = .ok (.istore 4, 2) := by decide +kernel
theorem dX7_addedTo_15 : decode cX7_addedTo 15 = .ok (.iload_n 1, 1) := by decide +kernel
theorem dX7_addedTo_16 : decode cX7_addedTo 16 = .ok (.istore 5, 2) := by decide +kernel
theorem dX7_addedTo_18 : decode cX7_addedTo 18 = .ok (.iload 5, 2) := by decide +kernel
theorem dX7_addedTo_20 : decode cX7_addedTo 20 = .ok (.iconst (-1), 1) := by decide +kernel
theorem dX7_addedTo_21 : decode cX7_addedTo 21 = .ok (.if_icmp .eq 42, 3) := by decide +kernel
theorem dX7_addedTo_24 : decode cX7_addedTo 24 = .ok (.iload 4, 2) := by decide +kernel
theorem dX7_addedTo_26 : decode cX7_addedTo 26 = .ok (.ifCond .ne 18, 3) := by decide +kernel
theorem dX7_addedTo_29 : decode cX7_addedTo 29 = .ok (.aload_n 0, 1) := by decide +kernel
theorem dX7_addedTo_30 : decode cX7_addedTo 30 = .ok (.getfield 51, 3) := by decide +kernel
theorem dX7_addedTo_33 : decode cX7_addedTo 33 = .ok (.iload_n 3, 1) := by decide +kernel
theorem dX7_addedTo_34 : decode cX7_addedTo 34 = .ok (.iaload, 1) := by decide +kernel
theorem dX7_addedTo_35 : decode cX7_addedTo 35 = .ok (.iload 5, 2) := by decide +kernel
theorem dX7_addedTo_37 : decode cX7_addedTo 37 = .ok (.ishr, 1) := by decide +kernel
theorem dX7_addedTo_38 : decode cX7_addedTo 38 = .ok (.iconst 1, 1) := by decide +kernel
theorem dX7_addedTo_39 : decode cX7_addedTo 39 = .ok (.iand, 1) := by decide +kernel
theorem dX7_addedTo_40 : decode cX7_addedTo 40 = .ok (.iconst 1, 1) := by decide +kernel
theorem dX7_addedTo_41 : decode cX7_addedTo 41 = .ok (.if_icmp .ne 7, 3) := by decide +kernel
theorem dX7_addedTo_44 : decode cX7_addedTo 44 = .ok (.iconst 1, 1) := by decide +kernel
theorem dX7_addedTo_45 : decode cX7_addedTo 45 = .ok (.goto 4, 3) := by decide +kernel
theorem dX7_addedTo_48 : decode cX7_addedTo 48 = .ok (.iconst 0, 1) := by decide +kernel
theorem dX7_addedTo_49 : decode cX7_addedTo 49 = .ok (.istore 4, 2) := by decide +kernel
theorem dX7_addedTo_51 : decode cX7_addedTo 51 = .ok (.aload_n 0, 1) := by decide +kernel
theorem dX7_addedTo_52 : decode cX7_addedTo 52 = .ok (.getfield 32, 3) := by decide +kernel
theorem dX7_addedTo_55 : decode cX7_addedTo 55 = .ok (.iload 5, 2) := by decide +kernel
theorem dX7_addedTo_57 : decode cX7_addedTo 57 = .ok (.iaload, 1) := by decide +kernel
theorem dX7_addedTo_58 : decode cX7_addedTo 58 = .ok (.istore 5, 2) := by decide +kernel
theorem dX7_addedTo_60 : decode cX7_addedTo 60 = .ok (.goto (-42), 3) := by decide +kernel
theorem dX7_addedTo_63 : decode cX7_addedTo 63 = .ok (.iload_n 2, 1) := by decide +kernel
theorem dX7_addedTo_64 : decode cX7_addedTo 64 = .ok (.iload 4, 2) := by decide +kernel
theorem dX7_addedTo_66 : decode cX7_addedTo 66 = .ok (.ifCond .eq 12, 3) := by decide +kernel
theorem dX7_addedTo_69 : decode cX7_addedTo 69 = .ok (.aload_n 0, 1) := by decide +kernel
theorem dX7_addedTo_70 : decode cX7_addedTo 70 = .ok (.getfield 48, 3) := by decide +kernel
theorem dX7_addedTo_73 : decode cX7_addedTo 73 = .ok (.iload_n 3, 1) := by decide +kernel
theorem dX7_addedTo_74 : decode cX7_addedTo 74 = .ok (.iaload, 1) := by decide +kernel
theorem dX7_addedTo_75 : decode cX7_addedTo 75 = .ok (.goto 4, 3) := by decide +kernel
theorem dX7_addedTo_78 : decode cX7_addedTo 78 = .ok (.iconst 0, 1) := by decide +kernel
theorem dX7_addedTo_79 : decode cX7_addedTo 79 = .ok (.iadd, 1) := by decide +kernel
theorem dX7_addedTo_80 : decode cX7_addedTo 80 = .ok (.istore_n 2, 1) := by decide +kernel
theorem dX7_addedTo_81 : decode cX7_addedTo 81 = .ok (.iinc 3 1, 3) := by decide +kernel
theorem dX7_addedTo_84 : decode cX7_addedTo 84 = .ok (.goto (-80), 3) := by decide +kernel
theorem dX7_addedTo_87 : decode cX7_addedTo 87 = .ok (.iload_n 2, 1) := by decide +kernel
theorem dX7_addedTo_88 : decode cX7_addedTo 88 = .ok (.ireturn, 1) := by decide +kernel
theorem dX7_worksTerm_0 : decode cX7_worksTerm 0 = .ok (.aload_n 0, 1) := by decide +kernel
theorem dX7_worksTerm_1 : decode cX7_worksTerm 1 = .ok (.getfield 32, 3) := by decide +kernel
theorem dX7_worksTerm_4 : decode cX7_worksTerm 4 = .ok (.iload_n 1, 1) := by decide +kernel
theorem dX7_worksTerm_5 : decode cX7_worksTerm 5 = .ok (.iaload, 1) := by decide +kernel
theorem dX7_worksTerm_6 : decode cX7_worksTerm 6 = .ok (.istore_n 2, 1) := by decide +kernel
theorem dX7_worksTerm_7 : decode cX7_worksTerm 7 = .ok (.iload_n 2, 1) := by decide +kernel
theorem dX7_worksTerm_8 : decode cX7_worksTerm 8 = .ok (.iconst (-1), 1) := by decide +kernel
theorem dX7_worksTerm_9 : decode cX7_worksTerm 9 = .ok (.if_icmp .ne 7, 3) := by decide +kernel
theorem dX7_worksTerm_12 : decode cX7_worksTerm 12 = .ok (.iconst 1, 1) := by decide +kernel
theorem dX7_worksTerm_13 : decode cX7_worksTerm 13 = .ok (.goto 4, 3) := by decide +kernel
theorem dX7_worksTerm_16 : decode cX7_worksTerm 16 = .ok (.iconst 0, 1) := by decide +kernel
theorem dX7_worksTerm_17 : decode cX7_worksTerm 17 = .ok (.istore_n 3, 1) := by decide +kernel
theorem dX7_worksTerm_18 : decode cX7_worksTerm 18 = .ok (.aload_n 0, 1) := by decide +kernel
theorem dX7_worksTerm_19 : decode cX7_worksTerm 19 = .ok (.getfield 57, 3) := by decide +kernel
theorem dX7_worksTerm_22 : decode cX7_worksTerm 22 = .ok (.iload_n 1, 1) := by decide +kernel
theorem dX7_worksTerm_23 : decode cX7_worksTerm 23 = .ok (.iload_n 3, 1) := by decide +kernel
theorem dX7_worksTerm_24 : decode cX7_worksTerm 24 = .ok (.ifCond .eq 12, 3) := by decide +kernel
theorem dX7_worksTerm_27 : decode cX7_worksTerm 27 = .ok (.aload_n 0, 1) := by decide +kernel
theorem dX7_worksTerm_28 : decode cX7_worksTerm 28 = .ok (.getfield 29, 3) := by decide +kernel
theorem dX7_worksTerm_31 : decode cX7_worksTerm 31 = .ok (.iload_n 1, 1) := by decide +kernel
theorem dX7_worksTerm_32 : decode cX7_worksTerm 32 = .ok (.iaload, 1) := by decide +kernel
theorem dX7_worksTerm_33 : decode cX7_worksTerm 33 = .ok (.goto 16, 3) := by decide +kernel
theorem dX7_worksTerm_36 : decode cX7_worksTerm 36 = .ok (.aload_n 0, 1) := by decide +kernel
theorem dX7_worksTerm_37 : decode cX7_worksTerm 37 = .ok (.getfield 57, 3) := by decide +kernel
theorem dX7_worksTerm_40 : decode cX7_worksTerm 40 = .ok (.iload_n 2, 1) := by decide +kernel
theorem dX7_worksTerm_41 : decode cX7_worksTerm 41 = .ok (.iaload, 1) := by decide +kernel
theorem dX7_worksTerm_42 : decode cX7_worksTerm 42 = .ok (.aload_n 0, 1) := by decide +kernel
theorem dX7_worksTerm_43 : decode cX7_worksTerm 43 = .ok (.getfield 60, 3) := by decide +kernel
theorem dX7_worksTerm_46 : decode cX7_worksTerm 46 = .ok (.iload_n 2, 1) := by decide +kernel
theorem dX7_worksTerm_47 : decode cX7_worksTerm 47 = .ok (.iaload, 1) := by decide +kernel
theorem dX7_worksTerm_48 : decode cX7_worksTerm 48 = .ok (.iadd, 1) := by decide +kernel
theorem dX7_worksTerm_49 : decode cX7_worksTerm 49 = .ok (.iastore, 1) := by decide +kernel
theorem dX7_worksTerm_50 : decode cX7_worksTerm 50 = .ok (.aload_n 0, 1) := by decide +kernel
theorem dX7_worksTerm_51 : decode cX7_worksTerm 51 = .ok (.getfield 60, 3) := by decide +kernel
theorem dX7_worksTerm_54 : decode cX7_worksTerm 54 = .ok (.iload_n 1, 1) := by decide +kernel
theorem dX7_worksTerm_55 : decode cX7_worksTerm 55 = .ok (.aload_n 0, 1) := by decide +kernel
theorem dX7_worksTerm_56 : decode cX7_worksTerm 56 = .ok (.aload_n 0, 1) := by decide +kernel
theorem dX7_worksTerm_57 : decode cX7_worksTerm 57 = .ok (.getfield 57, 3) := by decide +kernel
theorem dX7_worksTerm_60 : decode cX7_worksTerm 60 = .ok (.iload_n 1, 1) := by decide +kernel
theorem dX7_worksTerm_61 : decode cX7_worksTerm 61 = .ok (.iaload, 1) := by decide +kernel
theorem dX7_worksTerm_62 : decode cX7_worksTerm 62 = .ok (.aload_n 0, 1) := by decide +kernel
theorem dX7_worksTerm_63 : decode cX7_worksTerm 63 = .ok (.getfield 20, 3) := by decide +kernel
theorem dX7_worksTerm_66 : decode cX7_worksTerm 66 = .ok (.iload_n 1, 1) := by decide +kernel
theorem dX7_worksTerm_67 : decode cX7_worksTerm 67 = .ok (.iaload, 1) := by decide +kernel
theorem dX7_worksTerm_68 : decode cX7_worksTerm 68 = .ok (.invokevirtual 137, 3) := by decide +kernel
theorem dX7_worksTerm_71 : decode cX7_worksTerm 71 = .ok (.aload_n 0, 1) := by decide +kernel
theorem dX7_worksTerm_72 : decode cX7_worksTerm 72 = .ok (.getfield 57, 3) := by decide +kernel
theorem dX7_worksTerm_75 : decode cX7_worksTerm 75 = .ok (.iload_n 1, 1) := by decide +kernel
theorem dX7_worksTerm_76 : decode cX7_worksTerm 76 = .ok (.iaload, 1) := by decide +kernel
theorem dX7_worksTerm_77 : decode cX7_worksTerm 77 = .ok (.isub, 1) := by decide +kernel
theorem dX7_worksTerm_78 : decode cX7_worksTerm 78 = .ok (.aload_n 0, 1) := by decide +kernel
theorem dX7_worksTerm_79 : decode cX7_worksTerm 79 = .ok (.getfield 23, 3) := by decide +kernel
theorem dX7_worksTerm_82 : decode cX7_worksTerm 82 = .ok (.iload_n 1, 1) := by decide +kernel
theorem dX7_worksTerm_83 : decode cX7_worksTerm 83 = .ok (.iaload, 1) := by decide +kernel
theorem dX7_worksTerm_84 : decode cX7_worksTerm 84 = .ok (.iadd, 1) := by decide +kernel
theorem dX7_worksTerm_85 : decode cX7_worksTerm 85 = .ok (.iastore, 1) := by decide +kernel
theorem dX7_worksTerm_86 : decode cX7_worksTerm 86 = .ok (.aload_n 0, 1) := by decide +kernel
theorem dX7_worksTerm_87 : decode cX7_worksTerm 87 = .ok (.getfield 63, 3) := by decide +kernel
theorem dX7_worksTerm_90 : decode cX7_worksTerm 90 = .ok (.iload_n 1, 1) := by decide +kernel
theorem dX7_worksTerm_91 : decode cX7_worksTerm 91 = .ok (.aload_n 0, 1) := by decide +kernel
theorem dX7_worksTerm_92 : decode cX7_worksTerm 92 = .ok (.getfield 17, 3) := by decide +kernel
theorem dX7_worksTerm_95 : decode cX7_worksTerm 95 = .ok (.iload_n 1, 1) := by decide +kernel
theorem dX7_worksTerm_96 : decode cX7_worksTerm 96 = .ok (.iaload, 1) := by decide +kernel
theorem dX7_worksTerm_97 : decode cX7_worksTerm 97 = .ok (.aload_n 0, 1) := by decide +kernel
theorem dX7_worksTerm_98 : decode cX7_worksTerm 98 = .ok (.getfield 60, 3) := by decide +kernel
theorem dX7_worksTerm_101 : decode cX7_worksTerm 101 = .ok (.iload_n 1, 1) := by decide +kernel
theorem dX7_worksTerm_102 : decode cX7_worksTerm 102 = .ok (.iaload, 1) := by decide +kernel
theorem dX7_worksTerm_103 : decode cX7_worksTerm 103 = .ok (.invokestatic 156, 3) := by decide +kernel
theorem dX7_worksTerm_106 : decode cX7_worksTerm 106 = .ok (.iastore, 1) := by decide +kernel
theorem dX7_worksTerm_107 : decode cX7_worksTerm 107 = .ok (.aload_n 0, 1) := by decide +kernel
theorem dX7_worksTerm_108 : decode cX7_worksTerm 108 = .ok (.getfield 66, 3) := by decide +kernel
theorem dX7_worksTerm_111 : decode cX7_worksTerm 111 = .ok (.iload_n 1, 1) := by decide +kernel
theorem dX7_worksTerm_112 : decode cX7_worksTerm 112 = .ok (.iload_n 3, 1) := by decide +kernel
theorem dX7_worksTerm_113 : decode cX7_worksTerm 113 = .ok (.ifCond .eq 12, 3) := by decide +kernel
theorem dX7_worksTerm_116 : decode cX7_worksTerm 116 = .ok (.aload_n 0, 1) := by decide +kernel
theorem dX7_worksTerm_117 : decode cX7_worksTerm 117 = .ok (.getfield 57, 3) := by decide +kernel
theorem dX7_worksTerm_120 : decode cX7_worksTerm 120 = .ok (.iload_n 1, 1) := by decide +kernel
theorem dX7_worksTerm_121 : decode cX7_worksTerm 121 = .ok (.iaload, 1) := by decide +kernel
theorem dX7_worksTerm_122 : decode cX7_worksTerm 122 = .ok (.goto 9, 3) := by decide +kernel
theorem dX7_worksTerm_125 : decode cX7_worksTerm 125 = .ok (.aload_n 0, 1) := by decide +kernel
theorem dX7_worksTerm_126 : decode cX7_worksTerm 126 = .ok (.getfield 66, 3) := by decide +kernel
theorem dX7_worksTerm_129 : decode cX7_worksTerm 129 = .ok (.iload_n 2, 1) := by decide +kernel
theorem dX7_worksTerm_130 : decode cX7_worksTerm 130 = .ok (.iaload, 1) := by decide +kernel
theorem dX7_worksTerm_131 : decode cX7_worksTerm 131 = .ok (.iastore, 1) := by decide +kernel
theorem dX7_worksTerm_132 : decode cX7_worksTerm 132 = .ok (.aload_n 0, 1) := by decide +kernel
theorem dX7_worksTerm_133 : decode cX7_worksTerm 133 = .ok (.getfield 69, 3) := by decide +kernel
theorem dX7_worksTerm_136 : decode cX7_worksTerm 136 = .ok (.iload_n 1, 1) := by decide +kernel
theorem dX7_worksTerm_137 : decode cX7_worksTerm 137 = .ok (.aload_n 0, 1) := by decide +kernel
theorem dX7_worksTerm_138 : decode cX7_worksTerm 138 = .ok (.getfield 60, 3) := by decide +kernel
theorem dX7_worksTerm_141 : decode cX7_worksTerm 141 = .ok (.iload_n 1, 1) := by decide +kernel
theorem dX7_worksTerm_142 : decode cX7_worksTerm 142 = .ok (.iaload, 1) := by decide +kernel
theorem dX7_worksTerm_143 : decode cX7_worksTerm 143 = .ok (.iload_n 3, 1) := by decide +kernel
theorem dX7_worksTerm_144 : decode cX7_worksTerm 144 = .ok (.ifCond .eq 7, 3) := by decide +kernel
theorem dX7_worksTerm_147 : decode cX7_worksTerm 147 = .ok (.iconst 0, 1) := by decide +kernel
theorem dX7_worksTerm_148 : decode cX7_worksTerm 148 = .ok (.goto 9, 3) := by decide +kernel
theorem dX7_worksTerm_151 : decode cX7_worksTerm 151 = .ok (.aload_n 0, 1) := by decide +kernel
theorem dX7_worksTerm_152 : decode cX7_worksTerm 152 = .ok (.getfield 69, 3) := by decide +kernel
theorem dX7_worksTerm_155 : decode cX7_worksTerm 155 = .ok (.iload_n 2, 1) := by decide +kernel
theorem dX7_worksTerm_156 : decode cX7_worksTerm 156 = .ok (.iaload, 1) := by decide +kernel
theorem dX7_worksTerm_157 : decode cX7_worksTerm 157 = .ok (.iadd, 1) := by decide +kernel
theorem dX7_worksTerm_158 : decode cX7_worksTerm 158 = .ok (.iastore, 1) := by decide +kernel
theorem dX7_worksTerm_159 : decode cX7_worksTerm 159 = .ok (.aload_n 0, 1) := by decide +kernel
theorem dX7_worksTerm_160 : decode cX7_worksTerm 160 = .ok (.getfield 72, 3) := by decide +kernel
theorem dX7_worksTerm_163 : decode cX7_worksTerm 163 = .ok (.iload_n 1, 1) := by decide +kernel
theorem dX7_worksTerm_164 : decode cX7_worksTerm 164 = .ok (.aload_n 0, 1) := by decide +kernel
theorem dX7_worksTerm_165 : decode cX7_worksTerm 165 = .ok (.getfield 63, 3) := by decide +kernel
theorem dX7_worksTerm_168 : decode cX7_worksTerm 168 = .ok (.iload_n 1, 1) := by decide +kernel
theorem dX7_worksTerm_169 : decode cX7_worksTerm 169 = .ok (.iaload, 1) := by decide +kernel
theorem dX7_worksTerm_170 : decode cX7_worksTerm 170 = .ok (.iload_n 3, 1) := by decide +kernel
theorem dX7_worksTerm_171 : decode cX7_worksTerm 171 = .ok (.ifCond .eq 7, 3) := by decide +kernel
theorem dX7_worksTerm_174 : decode cX7_worksTerm 174 = .ok (.iconst 0, 1) := by decide +kernel
theorem dX7_worksTerm_175 : decode cX7_worksTerm 175 = .ok (.goto 9, 3) := by decide +kernel
theorem dX7_worksTerm_178 : decode cX7_worksTerm 178 = .ok (.aload_n 0, 1) := by decide +kernel
theorem dX7_worksTerm_179 : decode cX7_worksTerm 179 = .ok (.getfield 72, 3) := by decide +kernel
theorem dX7_worksTerm_182 : decode cX7_worksTerm 182 = .ok (.iload_n 2, 1) := by decide +kernel
theorem dX7_worksTerm_183 : decode cX7_worksTerm 183 = .ok (.iaload, 1) := by decide +kernel
theorem dX7_worksTerm_184 : decode cX7_worksTerm 184 = .ok (.iadd, 1) := by decide +kernel
theorem dX7_worksTerm_185 : decode cX7_worksTerm 185 = .ok (.iastore, 1) := by decide +kernel
theorem dX7_worksTerm_186 : decode cX7_worksTerm 186 = .ok (.aload_n 0, 1) := by decide +kernel
theorem dX7_worksTerm_187 : decode cX7_worksTerm 187 = .ok (.iload_n 1, 1) := by decide +kernel
theorem dX7_worksTerm_188 : decode cX7_worksTerm 188 = .ok (.invokevirtual 159, 3) := by decide +kernel
theorem dX7_worksTerm_191 : decode cX7_worksTerm 191 = .ok (.istore 4, 2) := by decide +kernel
theorem dX7_worksTerm_193 : decode cX7_worksTerm 193 = .ok (.aload_n 0, 1) := by decide +kernel
theorem dX7_worksTerm_194 : decode cX7_worksTerm 194 = .ok (.getfield 75, 3) := by decide +kernel
theorem dX7_worksTerm_197 : decode cX7_worksTerm 197 = .ok (.iload_n 1, 1) := by decide +kernel
theorem dX7_worksTerm_198 : decode cX7_worksTerm 198 = .ok (.iload 4, 2) := by decide +kernel
theorem dX7_worksTerm_200 : decode cX7_worksTerm 200 = .ok (.aload_n 0, 1) := by decide +kernel
theorem dX7_worksTerm_201 : decode cX7_worksTerm 201 = .ok (.getfield 69, 3) := by decide +kernel
theorem dX7_worksTerm_204 : decode cX7_worksTerm 204 = .ok (.iload_n 1, 1) := by decide +kernel
theorem dX7_worksTerm_205 : decode cX7_worksTerm 205 = .ok (.iaload, 1) := by decide +kernel
theorem dX7_worksTerm_206 : decode cX7_worksTerm 206 = .ok (.if_icmp .ge 8, 3) := by decide +kernel
theorem dX7_worksTerm_209 : decode cX7_worksTerm 209 = .ok (.iload 4, 2) := by decide +kernel
theorem dX7_worksTerm_211 : decode cX7_worksTerm 211 = .ok (.goto 9, 3) := by decide +kernel
theorem dX7_worksTerm_214 : decode cX7_worksTerm 214 = .ok (.aload_n 0, 1) := by decide +kernel
theorem dX7_worksTerm_215 : decode cX7_worksTerm 215 = .ok (.getfield 69, 3) := by decide +kernel
theorem dX7_worksTerm_218 : decode cX7_worksTerm 218 = .ok (.iload_n 1, 1) := by decide +kernel
theorem dX7_worksTerm_219 : decode cX7_worksTerm 219 = .ok (.iaload, 1) := by decide +kernel
theorem dX7_worksTerm_220 : decode cX7_worksTerm 220 = .ok (.iastore, 1) := by decide +kernel
theorem dX7_worksTerm_221 : decode cX7_worksTerm 221 = .ok (.aload_n 0, 1) := by decide +kernel
theorem dX7_worksTerm_222 : decode cX7_worksTerm 222 = .ok (.getfield 78, 3) := by decide +kernel
theorem dX7_worksTerm_225 : decode cX7_worksTerm 225 = .ok (.iload_n 1, 1) := by decide +kernel
theorem dX7_worksTerm_226 : decode cX7_worksTerm 226 = .ok (.aload_n 0, 1) := by decide +kernel
theorem dX7_worksTerm_227 : decode cX7_worksTerm 227 = .ok (.iload_n 1, 1) := by decide +kernel
theorem dX7_worksTerm_228 : decode cX7_worksTerm 228 = .ok (.invokevirtual 162, 3) := by decide +kernel
theorem dX7_worksTerm_231 : decode cX7_worksTerm 231 = .ok (.iastore, 1) := by decide +kernel
theorem dX7_worksTerm_232 : decode cX7_worksTerm 232 = .ok (.aload_n 0, 1) := by decide +kernel
theorem dX7_worksTerm_233 : decode cX7_worksTerm 233 = .ok (.getfield 69, 3) := by decide +kernel
theorem dX7_worksTerm_236 : decode cX7_worksTerm 236 = .ok (.iload_n 1, 1) := by decide +kernel
theorem dX7_worksTerm_237 : decode cX7_worksTerm 237 = .ok (.iaload, 1) := by decide +kernel
theorem dX7_worksTerm_238 : decode cX7_worksTerm 238 = .ok (.aload_n 0, 1) := by decide +kernel
theorem dX7_worksTerm_239 : decode cX7_worksTerm 239 = .ok (.getfield 75, 3) := by decide +kernel
theorem dX7_worksTerm_242 : decode cX7_worksTerm 242 = .ok (.iload_n 1, 1) := by decide +kernel
theorem dX7_worksTerm_243 : decode cX7_worksTerm 243 = .ok (.iaload, 1) := by decide +kernel
theorem dX7_worksTerm_244 : decode cX7_worksTerm 244 = .ok (.isub, 1) := by decide +kernel
theorem dX7_worksTerm_245 : decode cX7_worksTerm 245 = .ok (.istore 5, 2) := by decide +kernel
theorem dX7_worksTerm_247 : decode cX7_worksTerm 247 = .ok (.aload_n 0, 1) := by decide +kernel
theorem dX7_worksTerm_248 : decode cX7_worksTerm 248 = .ok (.getfield 72, 3) := by decide +kernel
theorem dX7_worksTerm_251 : decode cX7_worksTerm 251 = .ok (.iload_n 1, 1) := by decide +kernel
theorem dX7_worksTerm_252 : decode cX7_worksTerm 252 = .ok (.iaload, 1) := by decide +kernel
theorem dX7_worksTerm_253 : decode cX7_worksTerm 253 = .ok (.aload_n 0, 1) := by decide +kernel
theorem dX7_worksTerm_254 : decode cX7_worksTerm 254 = .ok (.getfield 75, 3) := by decide +kernel
theorem dX7_worksTerm_257 : decode cX7_worksTerm 257 = .ok (.iload_n 1, 1) := by decide +kernel
theorem dX7_worksTerm_258 : decode cX7_worksTerm 258 = .ok (.iaload, 1) := by decide +kernel
theorem dX7_worksTerm_259 : decode cX7_worksTerm 259 = .ok (.if_icmp .le 19, 3) := by decide +kernel
theorem dX7_worksTerm_262 : decode cX7_worksTerm 262 = .ok (.aload_n 0, 1) := by decide +kernel
theorem dX7_worksTerm_263 : decode cX7_worksTerm 263 = .ok (.getfield 72, 3) := by decide +kernel
theorem dX7_worksTerm_266 : decode cX7_worksTerm 266 = .ok (.iload_n 1, 1) := by decide +kernel
theorem dX7_worksTerm_267 : decode cX7_worksTerm 267 = .ok (.iaload, 1) := by decide +kernel
theorem dX7_worksTerm_268 : decode cX7_worksTerm 268 = .ok (.aload_n 0, 1) := by decide +kernel
theorem dX7_worksTerm_269 : decode cX7_worksTerm 269 = .ok (.getfield 75, 3) := by decide +kernel
theorem dX7_worksTerm_272 : decode cX7_worksTerm 272 = .ok (.iload_n 1, 1) := by decide +kernel
theorem dX7_worksTerm_273 : decode cX7_worksTerm 273 = .ok (.iaload, 1) := by decide +kernel
theorem dX7_worksTerm_274 : decode cX7_worksTerm 274 = .ok (.isub, 1) := by decide +kernel
theorem dX7_worksTerm_275 : decode cX7_worksTerm 275 = .ok (.goto 4, 3) := by decide +kernel
theorem dX7_worksTerm_278 : decode cX7_worksTerm 278 = .ok (.iconst 0, 1) := by decide +kernel
theorem dX7_worksTerm_279 : decode cX7_worksTerm 279 = .ok (.aload_n 0, 1) := by decide +kernel
theorem dX7_worksTerm_280 : decode cX7_worksTerm 280 = .ok (.getfield 78, 3) := by decide +kernel
theorem dX7_worksTerm_283 : decode cX7_worksTerm 283 = .ok (.iload_n 1, 1) := by decide +kernel
theorem dX7_worksTerm_284 : decode cX7_worksTerm 284 = .ok (.iaload, 1) := by decide +kernel
theorem dX7_worksTerm_285 : decode cX7_worksTerm 285 = .ok (.iadd, 1) := by decide +kernel
theorem dX7_worksTerm_286 : decode cX7_worksTerm 286 = .ok (.istore 6, 2) := by decide +kernel
theorem dX7_worksTerm_288 : decode cX7_worksTerm 288 = .ok (.aload_n 0, 1) := by decide +kernel
theorem dX7_worksTerm_289 : decode cX7_worksTerm 289 = .ok (.getfield 81, 3) := by decide +kernel
theorem dX7_worksTerm_292 : decode cX7_worksTerm 292 = .ok (.iload_n 1, 1) := by decide +kernel
theorem dX7_worksTerm_293 : decode cX7_worksTerm 293 = .ok (.aload_n 0, 1) := by decide +kernel
theorem dX7_worksTerm_294 : decode cX7_worksTerm 294 = .ok (.getfield 66, 3) := by decide +kernel
theorem dX7_worksTerm_297 : decode cX7_worksTerm 297 = .ok (.iload_n 1, 1) := by decide +kernel
theorem dX7_worksTerm_298 : decode cX7_worksTerm 298 = .ok (.iaload, 1) := by decide +kernel
theorem dX7_worksTerm_299 : decode cX7_worksTerm 299 = .ok (.iload 6, 2) := by decide +kernel
theorem dX7_worksTerm_301 : decode cX7_worksTerm 301 = .ok (.iload 5, 2) := by decide +kernel
theorem dX7_worksTerm_303 : decode cX7_worksTerm 303 = .ok (.if_icmp .ge 8, 3) := by decide +kernel
theorem dX7_worksTerm_306 : decode cX7_worksTerm 306 = .ok (.iload 6, 2) := by decide +kernel
theorem dX7_worksTerm_308 : decode cX7_worksTerm 308 = .ok (.goto 5, 3) := by decide +kernel
theorem dX7_worksTerm_311 : decode cX7_worksTerm 311 = .ok (.iload 5, 2) := by decide +kernel
theorem dX7_worksTerm_313 : decode cX7_worksTerm 313 = .ok (.iadd, 1) := by decide +kernel
theorem dX7_worksTerm_314 : decode cX7_worksTerm 314 = .ok (.iastore, 1) := by decide +kernel
theorem dX7_worksTerm_315 : decode cX7_worksTerm 315 = .ok (.aload_n 0, 1) := by decide +kernel
theorem dX7_worksTerm_316 : decode cX7_worksTerm 316 = .ok (.getfield 84, 3) := by decide +kernel
theorem dX7_worksTerm_319 : decode cX7_worksTerm 319 = .ok (.iload_n 1, 1) := by decide +kernel
theorem dX7_worksTerm_320 : decode cX7_worksTerm 320 = .ok (.aload_n 0, 1) := by decide +kernel
theorem dX7_worksTerm_321 : decode cX7_worksTerm 321 = .ok (.getfield 66, 3) := by decide +kernel
theorem dX7_worksTerm_324 : decode cX7_worksTerm 324 = .ok (.iload_n 1, 1) := by decide +kernel
theorem dX7_worksTerm_325 : decode cX7_worksTerm 325 = .ok (.iaload, 1) := by decide +kernel
theorem dX7_worksTerm_326 : decode cX7_worksTerm 326 = .ok (.iload 5, 2) := by decide +kernel
theorem dX7_worksTerm_328 : decode cX7_worksTerm 328 = .ok (.iadd, 1) := by decide +kernel
theorem dX7_worksTerm_329 : decode cX7_worksTerm 329 = .ok (.iastore, 1) := by decide +kernel
theorem dX7_worksTerm_330 : decode cX7_worksTerm 330 = .ok (.return_, 1) := by decide +kernel
theorem dX7_works_0 : decode cX7_works 0 = .ok (.iconst 0, 1) := by decide +kernel
theorem dX7_works_1 : decode cX7_works 1 = .ok (.istore_n 1, 1) := by decide +kernel
theorem dX7_works_2 : decode cX7_works 2 = .ok (.iload_n 1, 1) := by decide +kernel
theorem dX7_works_3 : decode cX7_works 3 = .ok (.aload_n 0, 1) := by decide +kernel
theorem dX7_works_4 : decode cX7_works 4 = .ok (.getfield 140, 3) := by decide +kernel
theorem dX7_works_7 : decode cX7_works 7 = .ok (.if_icmp .ge 22, 3) := by decide +kernel
theorem dX7_works_10 : decode cX7_works 10 = .ok (.aload_n 0, 1) := by decide +kernel
theorem dX7_works_11 : decode cX7_works 11 = .ok (.iload_n 1, 1) := by decide +kernel
theorem dX7_works_12 : decode cX7_works 12 = .ok (.invokevirtual 165, 3) := by decide +kernel
theorem dX7_works_15 : decode cX7_works 15 = .ok (.ifCond .eq 8, 3) := by decide +kernel
theorem dX7_works_18 : decode cX7_works 18 = .ok (.aload_n 0, 1) := by decide +kernel
theorem dX7_works_19 : decode cX7_works 19 = .ok (.iload_n 1, 1) := by decide +kernel
theorem dX7_works_20 : decode cX7_works 20 = .ok (.invokevirtual 168, 3) := by decide +kernel
theorem dX7_works_23 : decode cX7_works 23 = .ok (.iinc 1 1, 3) := by decide +kernel
theorem dX7_works_26 : decode cX7_works 26 = .ok (.goto (-24), 3) := by decide +kernel
theorem dX7_works_29 : decode cX7_works 29 = .ok (.return_, 1) := by decide +kernel
theorem dX7_isAny_0 : decode cX7_isAny 0 = .ok (.iconst 0, 1) := by decide +kernel
theorem dX7_isAny_1 : decode cX7_isAny 1 = .ok (.istore_n 1, 1) := by decide +kernel
theorem dX7_isAny_2 : decode cX7_isAny 2 = .ok (.iconst 0, 1) := by decide +kernel
theorem dX7_isAny_3 : decode cX7_isAny 3 = .ok (.istore_n 2, 1) := by decide +kernel
theorem dX7_isAny_4 : decode cX7_isAny 4 = .ok (.iload_n 2, 1) := by decide +kernel
theorem dX7_isAny_5 : decode cX7_isAny 5 = .ok (.aload_n 0, 1) := by decide +kernel
theorem dX7_isAny_6 : decode cX7_isAny 6 = .ok (.getfield 140, 3) := by decide +kernel
theorem dX7_isAny_9 : decode cX7_isAny 9 = .ok (.if_icmp .ge 27, 3) := by decide +kernel
theorem dX7_isAny_12 : decode cX7_isAny 12 = .ok (.iload_n 1, 1) := by decide +kernel
theorem dX7_isAny_13 : decode cX7_isAny 13 = .ok (.ifCond .ne 11, 3) := by decide +kernel
theorem dX7_isAny_16 : decode cX7_isAny 16 = .ok (.aload_n 0, 1) := by decide +kernel
theorem dX7_isAny_17 : decode cX7_isAny 17 = .ok (.iload_n 2, 1) := by decide +kernel
theorem dX7_isAny_18 : decode cX7_isAny 18 = .ok (.invokevirtual 165, 3) := by decide +kernel
theorem dX7_isAny_21 : decode cX7_isAny 21 = .ok (.ifCond .eq 7, 3) := by decide +kernel
theorem dX7_isAny_24 : decode cX7_isAny 24 = .ok (.iconst 1, 1) := by decide +kernel
theorem dX7_isAny_25 : decode cX7_isAny 25 = .ok (.goto 4, 3) := by decide +kernel
theorem dX7_isAny_28 : decode cX7_isAny 28 = .ok (.iconst 0, 1) := by decide +kernel
theorem dX7_isAny_29 : decode cX7_isAny 29 = .ok (.istore_n 1, 1) := by decide +kernel
theorem dX7_isAny_30 : decode cX7_isAny 30 = .ok (.iinc 2 1, 3) := by decide +kernel
theorem dX7_isAny_33 : decode cX7_isAny 33 = .ok (.goto (-29), 3) := by decide +kernel
theorem dX7_isAny_36 : decode cX7_isAny 36 = .ok (.iload_n 1, 1) := by decide +kernel
theorem dX7_isAny_37 : decode cX7_isAny 37 = .ok (.ireturn, 1) := by decide +kernel
theorem dX7_endOfAll_0 : decode cX7_endOfAll 0 = .ok (.iconst 0, 1) := by decide +kernel
theorem dX7_endOfAll_1 : decode cX7_endOfAll 1 = .ok (.istore_n 1, 1) := by decide +kernel
theorem dX7_endOfAll_2 : decode cX7_endOfAll 2 = .ok (.iconst 0, 1) := by decide +kernel
theorem dX7_endOfAll_3 : decode cX7_endOfAll 3 = .ok (.istore_n 2, 1) := by decide +kernel
theorem dX7_endOfAll_4 : decode cX7_endOfAll 4 = .ok (.iload_n 2, 1) := by decide +kernel
theorem dX7_endOfAll_5 : decode cX7_endOfAll 5 = .ok (.aload_n 0, 1) := by decide +kernel
theorem dX7_endOfAll_6 : decode cX7_endOfAll 6 = .ok (.getfield 140, 3) := by decide +kernel
theorem dX7_endOfAll_9 : decode cX7_endOfAll 9 = .ok (.if_icmp .ge 39, 3) := by decide +kernel
theorem dX7_endOfAll_12 : decode cX7_endOfAll 12 = .ok (.aload_n 0, 1) := by decide +kernel
theorem dX7_endOfAll_13 : decode cX7_endOfAll 13 = .ok (.iload_n 2, 1) := by decide +kernel
theorem dX7_endOfAll_14 : decode cX7_endOfAll 14 = .ok (.invokevirtual 165, 3) := by decide +kernel
theorem dX7_endOfAll_17 : decode cX7_endOfAll 17 = .ok (.ifCond .eq 12, 3) := by decide +kernel
theorem dX7_endOfAll_20 : decode cX7_endOfAll 20 = .ok (.aload_n 0, 1) := by decide +kernel
theorem dX7_endOfAll_21 : decode cX7_endOfAll 21 = .ok (.getfield 84, 3) := by decide +kernel
theorem dX7_endOfAll_24 : decode cX7_endOfAll 24 = .ok (.iload_n 2, 1) := by decide +kernel
theorem dX7_endOfAll_25 : decode cX7_endOfAll 25 = .ok (.iaload, 1) := by decide +kernel
theorem dX7_endOfAll_26 : decode cX7_endOfAll 26 = .ok (.goto 4, 3) := by decide +kernel
theorem dX7_endOfAll_29 : decode cX7_endOfAll 29 = .ok (.iconst 0, 1) := by decide +kernel
theorem dX7_endOfAll_30 : decode cX7_endOfAll 30 = .ok (.istore_n 3, 1) := by decide +kernel
theorem dX7_endOfAll_31 : decode cX7_endOfAll 31 = .ok (.iload_n 3, 1) := by decide +kernel
theorem dX7_endOfAll_32 : decode cX7_endOfAll 32 = .ok (.iload_n 1, 1) := by decide +kernel
theorem dX7_endOfAll_33 : decode cX7_endOfAll 33 = .ok (.if_icmp .le 7, 3) := by decide +kernel
theorem dX7_endOfAll_36 : decode cX7_endOfAll 36 = .ok (.iload_n 3, 1) := by decide +kernel
theorem dX7_endOfAll_37 : decode cX7_endOfAll 37 = .ok (.goto 4, 3) := by decide +kernel
theorem dX7_endOfAll_40 : decode cX7_endOfAll 40 = .ok (.iload_n 1, 1) := by decide +kernel
theorem dX7_endOfAll_41 : decode cX7_endOfAll 41 = .ok (.istore_n 1, 1) := by decide +kernel
theorem dX7_endOfAll_42 : decode cX7_endOfAll 42 = .ok (.iinc 2 1, 3) := by decide +kernel
theorem dX7_endOfAll_45 : decode cX7_endOfAll 45 = .ok (.goto (-41), 3) := by decide +kernel
theorem dX7_endOfAll_48 : decode cX7_endOfAll 48 = .ok (.iload_n 1, 1) := by decide +kernel
theorem dX7_endOfAll_49 : decode cX7_endOfAll 49 = .ok (.ireturn, 1) := by decide +kernel
theorem dX7_releaseOfAll_0 : decode cX7_releaseOfAll 0 = .ok (.iconst 0, 1) := by decide +kernel
theorem dX7_releaseOfAll_1 : decode cX7_releaseOfAll 1 = .ok (.istore_n 1, 1) := by decide +kernel
theorem dX7_releaseOfAll_2 : decode cX7_releaseOfAll 2 = .ok (.iconst 0, 1) := by decide +kernel
theorem dX7_releaseOfAll_3 : decode cX7_releaseOfAll 3 = .ok (.istore_n 2, 1) := by decide +kernel
theorem dX7_releaseOfAll_4 : decode cX7_releaseOfAll 4 = .ok (.iload_n 2, 1) := by decide +kernel
theorem dX7_releaseOfAll_5 : decode cX7_releaseOfAll 5 = .ok (.aload_n 0, 1) := by decide +kernel
theorem dX7_releaseOfAll_6 : decode cX7_releaseOfAll 6 = .ok (.getfield 140, 3) := by decide +kernel
theorem dX7_releaseOfAll_9 : decode cX7_releaseOfAll 9 = .ok (.if_icmp .ge 39, 3) := by decide +kernel
theorem dX7_releaseOfAll_12 : decode cX7_releaseOfAll 12 = .ok (.aload_n 0, 1) := by decide +kernel
theorem dX7_releaseOfAll_13 : decode cX7_releaseOfAll 13 = .ok (.iload_n 2, 1) := by decide +kernel
theorem dX7_releaseOfAll_14 : decode cX7_releaseOfAll 14 = .ok (.invokevirtual 165, 3) := by decide +kernel
theorem dX7_releaseOfAll_17 : decode cX7_releaseOfAll 17 = .ok (.ifCond .eq 12, 3) := by decide +kernel
theorem dX7_releaseOfAll_20 : decode cX7_releaseOfAll 20 = .ok (.aload_n 0, 1) := by decide +kernel
theorem dX7_releaseOfAll_21 : decode cX7_releaseOfAll 21 = .ok (.getfield 81, 3) := by decide +kernel
theorem dX7_releaseOfAll_24 : decode cX7_releaseOfAll 24 = .ok (.iload_n 2, 1) := by decide +kernel
theorem dX7_releaseOfAll_25 : decode cX7_releaseOfAll 25 = .ok (.iaload, 1) := by decide +kernel
theorem dX7_releaseOfAll_26 : decode cX7_releaseOfAll 26 = .ok (.goto 4, 3) := by decide +kernel
theorem dX7_releaseOfAll_29 : decode cX7_releaseOfAll 29 = .ok (.iconst 0, 1) := by decide +kernel
theorem dX7_releaseOfAll_30 : decode cX7_releaseOfAll 30 = .ok (.istore_n 3, 1) := by decide +kernel
theorem dX7_releaseOfAll_31 : decode cX7_releaseOfAll 31 = .ok (.iload_n 3, 1) := by decide +kernel
theorem dX7_releaseOfAll_32 : decode cX7_releaseOfAll 32 = .ok (.iload_n 1, 1) := by decide +kernel
theorem dX7_releaseOfAll_33 : decode cX7_releaseOfAll 33 = .ok (.if_icmp .le 7, 3) := by decide +kernel
theorem dX7_releaseOfAll_36 : decode cX7_releaseOfAll 36 = .ok (.iload_n 3, 1) := by decide +kernel
theorem dX7_releaseOfAll_37 : decode cX7_releaseOfAll 37 = .ok (.goto 4, 3) := by decide +kernel
theorem dX7_releaseOfAll_40 : decode cX7_releaseOfAll 40 = .ok (.iload_n 1, 1) := by decide +kernel
theorem dX7_releaseOfAll_41 : decode cX7_releaseOfAll 41 = .ok (.istore_n 1, 1) := by decide +kernel
theorem dX7_releaseOfAll_42 : decode cX7_releaseOfAll 42 = .ok (.iinc 2 1, 3) := by decide +kernel
theorem dX7_releaseOfAll_45 : decode cX7_releaseOfAll 45 = .ok (.goto (-41), 3) := by decide +kernel
theorem dX7_releaseOfAll_48 : decode cX7_releaseOfAll 48 = .ok (.iload_n 1, 1) := by decide +kernel
theorem dX7_releaseOfAll_49 : decode cX7_releaseOfAll 49 = .ok (.ireturn, 1) := by decide +kernel
theorem dX7_endOfRecall_0 : decode cX7_endOfRecall 0 = .ok (.aload_n 0, 1) := by decide +kernel
theorem dX7_endOfRecall_1 : decode cX7_endOfRecall 1 = .ok (.getfield 171, 3) := by decide +kernel
theorem dX7_endOfRecall_4 : decode cX7_endOfRecall 4 = .ok (.ifCond .eq 10, 3) := by decide +kernel
theorem dX7_endOfRecall_7 : decode cX7_endOfRecall 7 = .ok (.aload_n 0, 1) := by decide +kernel
theorem dX7_endOfRecall_8 : decode cX7_endOfRecall 8 = .ok (.getfield 174, 3) := by decide +kernel
theorem dX7_endOfRecall_11 : decode cX7_endOfRecall 11 = .ok (.ifCond .ne 19, 3) := by decide +kernel
theorem dX7_endOfRecall_14 : decode cX7_endOfRecall 14 = .ok (.aload_n 0, 1) := by decide +kernel
theorem dX7_endOfRecall_15 : decode cX7_endOfRecall 15 = .ok (.getfield 171, 3) := by decide +kernel
theorem dX7_endOfRecall_18 : decode cX7_endOfRecall 18 = .ok (.ifCond .ne 7, 3) := by decide +kernel
theorem dX7_endOfRecall_21 : decode cX7_endOfRecall 21 = .ok (.iconst 0, 1) := by decide +kernel
theorem dX7_endOfRecall_22 : decode cX7_endOfRecall 22 = .ok (.goto 7, 3) := by decide +kernel
theorem dX7_endOfRecall_25 : decode cX7_endOfRecall 25 = .ok (.aload_n 0, 1) := by decide +kernel
theorem dX7_endOfRecall_26 : decode cX7_endOfRecall 26 = .ok (.getfield 177, 3) := by decide +kernel
theorem dX7_endOfRecall_29 : decode cX7_endOfRecall 29 = .ok (.ireturn, 1) := by decide +kernel
theorem dX7_endOfRecall_30 : decode cX7_endOfRecall 30 = .ok (.aload_n 0, 1) := by decide +kernel
theorem dX7_endOfRecall_31 : decode cX7_endOfRecall 31 = .ok (.getfield 180, 3) := by decide +kernel
theorem dX7_endOfRecall_34 : decode cX7_endOfRecall 34 = .ok (.aload_n 0, 1) := by decide +kernel
theorem dX7_endOfRecall_35 : decode cX7_endOfRecall 35 = .ok (.getfield 174, 3) := by decide +kernel
theorem dX7_endOfRecall_38 : decode cX7_endOfRecall 38 = .ok (.iadd, 1) := by decide +kernel
theorem dX7_endOfRecall_39 : decode cX7_endOfRecall 39 = .ok (.istore_n 1, 1) := by decide +kernel
theorem dX7_endOfRecall_40 : decode cX7_endOfRecall 40 = .ok (.iconst 0, 1) := by decide +kernel
theorem dX7_endOfRecall_41 : decode cX7_endOfRecall 41 = .ok (.istore_n 2, 1) := by decide +kernel
theorem dX7_endOfRecall_42 : decode cX7_endOfRecall 42 = .ok (.iload_n 2, 1) := by decide +kernel
theorem dX7_endOfRecall_43 : decode cX7_endOfRecall 43 = .ok (.aload_n 0, 1) := by decide +kernel
theorem dX7_endOfRecall_44 : decode cX7_endOfRecall 44 = .ok (.getfield 153, 3) := by decide +kernel
theorem dX7_endOfRecall_47 : decode cX7_endOfRecall 47 = .ok (.if_icmp .ge 37, 3) := by decide +kernel
theorem dX7_endOfRecall_50 : decode cX7_endOfRecall 50 = .ok (.iload_n 1, 1) := by decide +kernel
theorem dX7_endOfRecall_51 : decode cX7_endOfRecall 51 = .ok (.aload_n 0, 1) := by decide +kernel
theorem dX7_endOfRecall_52 : decode cX7_endOfRecall 52 = .ok (.getfield 54, 3) := by decide +kernel
theorem dX7_endOfRecall_55 : decode cX7_endOfRecall 55 = .ok (.iload_n 2, 1) := by decide +kernel
theorem dX7_endOfRecall_56 : decode cX7_endOfRecall 56 = .ok (.iaload, 1) := by decide +kernel
theorem dX7_endOfRecall_57 : decode cX7_endOfRecall 57 = .ok (.aload_n 0, 1) := by decide +kernel
theorem dX7_endOfRecall_58 : decode cX7_endOfRecall 58 = .ok (.getfield 171, 3) := by decide +kernel
theorem dX7_endOfRecall_61 : decode cX7_endOfRecall 61 = .ok (.iconst 1, 1) := by decide +kernel
theorem dX7_endOfRecall_62 : decode cX7_endOfRecall 62 = .ok (.isub, 1) := by decide +kernel
theorem dX7_endOfRecall_63 : decode cX7_endOfRecall 63 = .ok (.if_icmp .ne 12, 3) := by decide +kernel
theorem dX7_endOfRecall_66 : decode cX7_endOfRecall 66 = .ok (.aload_n 0, 1) := by decide +kernel
theorem dX7_endOfRecall_67 : decode cX7_endOfRecall 67 = .ok (.getfield 48, 3) := by decide +kernel
theorem dX7_endOfRecall_70 : decode cX7_endOfRecall 70 = .ok (.iload_n 2, 1) := by decide +kernel
theorem dX7_endOfRecall_71 : decode cX7_endOfRecall 71 = .ok (.iaload, 1) := by decide +kernel
theorem dX7_endOfRecall_72 : decode cX7_endOfRecall 72 = .ok (.goto 4, 3) := by decide +kernel
theorem dX7_endOfRecall_75 : decode cX7_endOfRecall 75 = .ok (.iconst 0, 1) := by decide +kernel
theorem dX7_endOfRecall_76 : decode cX7_endOfRecall 76 = .ok (.iadd, 1) := by decide +kernel
theorem dX7_endOfRecall_77 : decode cX7_endOfRecall 77 = .ok (.istore_n 1, 1) := by decide +kernel
theorem dX7_endOfRecall_78 : decode cX7_endOfRecall 78 = .ok (.iinc 2 1, 3) := by decide +kernel
theorem dX7_endOfRecall_81 : decode cX7_endOfRecall 81 = .ok (.goto (-39), 3) := by decide +kernel
theorem dX7_endOfRecall_84 : decode cX7_endOfRecall 84 = .ok (.iload_n 1, 1) := by decide +kernel
theorem dX7_endOfRecall_85 : decode cX7_endOfRecall 85 = .ok (.aload_n 0, 1) := by decide +kernel
theorem dX7_endOfRecall_86 : decode cX7_endOfRecall 86 = .ok (.getfield 177, 3) := by decide +kernel
theorem dX7_endOfRecall_89 : decode cX7_endOfRecall 89 = .ok (.if_icmp .ge 7, 3) := by decide +kernel
theorem dX7_endOfRecall_92 : decode cX7_endOfRecall 92 = .ok (.iload_n 1, 1) := by decide +kernel
theorem dX7_endOfRecall_93 : decode cX7_endOfRecall 93 = .ok (.goto 7, 3) := by decide +kernel
theorem dX7_endOfRecall_96 : decode cX7_endOfRecall 96 = .ok (.aload_n 0, 1) := by decide +kernel
theorem dX7_endOfRecall_97 : decode cX7_endOfRecall 97 = .ok (.getfield 177, 3) := by decide +kernel
theorem dX7_endOfRecall_100 : decode cX7_endOfRecall 100 = .ok (.ireturn, 1) := by decide +kernel
theorem dX7_isRecalled_0 : decode cX7_isRecalled 0 = .ok (.aload_n 0, 1) := by decide +kernel
theorem dX7_isRecalled_1 : decode cX7_isRecalled 1 = .ok (.invokevirtual 183, 3) := by decide +kernel
theorem dX7_isRecalled_4 : decode cX7_isRecalled 4 = .ok (.aload_n 0, 1) := by decide +kernel
theorem dX7_isRecalled_5 : decode cX7_isRecalled 5 = .ok (.getfield 187, 3) := by decide +kernel
theorem dX7_isRecalled_8 : decode cX7_isRecalled 8 = .ok (.if_icmp .le 7, 3) := by decide +kernel
theorem dX7_isRecalled_11 : decode cX7_isRecalled 11 = .ok (.iconst 1, 1) := by decide +kernel
theorem dX7_isRecalled_12 : decode cX7_isRecalled 12 = .ok (.goto 4, 3) := by decide +kernel
theorem dX7_isRecalled_15 : decode cX7_isRecalled 15 = .ok (.iconst 0, 1) := by decide +kernel
theorem dX7_isRecalled_16 : decode cX7_isRecalled 16 = .ok (.ireturn, 1) := by decide +kernel
theorem dX7_statusNow_0 : decode cX7_statusNow 0 = .ok (.aload_n 0, 1) := by decide +kernel
theorem dX7_statusNow_1 : decode cX7_statusNow 1 = .ok (.invokevirtual 190, 3) := by decide +kernel
theorem dX7_statusNow_4 : decode cX7_statusNow 4 = .ok (.aload_n 0, 1) := by decide +kernel
theorem dX7_statusNow_5 : decode cX7_statusNow 5 = .ok (.getfield 187, 3) := by decide +kernel
theorem dX7_statusNow_8 : decode cX7_statusNow 8 = .ok (.if_icmp .gt 10, 3) := by decide +kernel
theorem dX7_statusNow_11 : decode cX7_statusNow 11 = .ok (.aload_n 0, 1) := by decide +kernel
theorem dX7_statusNow_12 : decode cX7_statusNow 12 = .ok (.invokevirtual 193, 3) := by decide +kernel
theorem dX7_statusNow_15 : decode cX7_statusNow 15 = .ok (.ifCond .eq 7, 3) := by decide +kernel
theorem dX7_statusNow_18 : decode cX7_statusNow 18 = .ok (.iconst 2, 1) := by decide +kernel
theorem dX7_statusNow_19 : decode cX7_statusNow 19 = .ok (.goto 19, 3) := by decide +kernel
theorem dX7_statusNow_22 : decode cX7_statusNow 22 = .ok (.aload_n 0, 1) := by decide +kernel
theorem dX7_statusNow_23 : decode cX7_statusNow 23 = .ok (.invokevirtual 197, 3) := by decide +kernel
theorem dX7_statusNow_26 : decode cX7_statusNow 26 = .ok (.aload_n 0, 1) := by decide +kernel
theorem dX7_statusNow_27 : decode cX7_statusNow 27 = .ok (.getfield 187, 3) := by decide +kernel
theorem dX7_statusNow_30 : decode cX7_statusNow 30 = .ok (.if_icmp .le 7, 3) := by decide +kernel
theorem dX7_statusNow_33 : decode cX7_statusNow 33 = .ok (.iconst 1, 1) := by decide +kernel
theorem dX7_statusNow_34 : decode cX7_statusNow 34 = .ok (.goto 4, 3) := by decide +kernel
theorem dX7_statusNow_37 : decode cX7_statusNow 37 = .ok (.iconst 0, 1) := by decide +kernel
theorem dX7_statusNow_38 : decode cX7_statusNow 38 = .ok (.ireturn, 1) := by decide +kernel
theorem dX7_bounds_0 : decode cX7_bounds 0 = .ok (.aload_n 0, 1) := by decide +kernel
theorem dX7_bounds_1 : decode cX7_bounds 1 = .ok (.invokevirtual 197, 3) := by decide +kernel
theorem dX7_bounds_4 : decode cX7_bounds 4 = .ok (.istore_n 1, 1) := by decide +kernel
theorem dX7_bounds_5 : decode cX7_bounds 5 = .ok (.aload_n 0, 1) := by decide +kernel
theorem dX7_bounds_6 : decode cX7_bounds 6 = .ok (.aload_n 0, 1) := by decide +kernel
theorem dX7_bounds_7 : decode cX7_bounds 7 = .ok (.getfield 171, 3) := by decide +kernel
theorem dX7_bounds_10 : decode cX7_bounds 10 = .ok (.ifCond .le 15, 3) := by decide +kernel
theorem dX7_bounds_13 : decode cX7_bounds 13 = .ok (.iload_n 1, 1) := by decide +kernel
theorem dX7_bounds_14 : decode cX7_bounds 14 = .ok (.aload_n 0, 1) := by decide +kernel
theorem dX7_bounds_15 : decode cX7_bounds 15 = .ok (.getfield 177, 3) := by decide +kernel
theorem dX7_bounds_18 : decode cX7_bounds 18 = .ok (.if_icmp .ge 7, 3) := by decide +kernel
theorem dX7_bounds_21 : decode cX7_bounds 21 = .ok (.iload_n 1, 1) := by decide +kernel
theorem dX7_bounds_22 : decode cX7_bounds 22 = .ok (.goto 7, 3) := by decide +kernel
theorem dX7_bounds_25 : decode cX7_bounds 25 = .ok (.aload_n 0, 1) := by decide +kernel
theorem dX7_bounds_26 : decode cX7_bounds 26 = .ok (.getfield 177, 3) := by decide +kernel
theorem dX7_bounds_29 : decode cX7_bounds 29 = .ok (.putfield 177, 3) := by decide +kernel
theorem dX7_bounds_32 : decode cX7_bounds 32 = .ok (.return_, 1) := by decide +kernel
theorem dX7_today_0 : decode cX7_today 0 = .ok (.aload_n 0, 1) := by decide +kernel
theorem dX7_today_1 : decode cX7_today 1 = .ok (.iconst 0, 1) := by decide +kernel
theorem dX7_today_2 : decode cX7_today 2 = .ok (.putfield 93, 3) := by decide +kernel
theorem dX7_today_5 : decode cX7_today 5 = .ok (.aload_n 0, 1) := by decide +kernel
theorem dX7_today_6 : decode cX7_today 6 = .ok (.getfield 187, 3) := by decide +kernel
theorem dX7_today_9 : decode cX7_today 9 = .ok (.ireturn, 1) := by decide +kernel
theorem dX7_advance_0 : decode cX7_advance 0 = .ok (.aload_n 0, 1) := by decide +kernel
theorem dX7_advance_1 : decode cX7_advance 1 = .ok (.iload_n 1, 1) := by decide +kernel
theorem dX7_advance_2 : decode cX7_advance 2 = .ok (.iconst 1, 1) := by decide +kernel
theorem dX7_advance_3 : decode cX7_advance 3 = .ok (.sipush 400, 3) := by decide +kernel
theorem dX7_advance_6 : decode cX7_advance 6 = .ok (.invokestatic 122, 3) := by decide +kernel
theorem dX7_advance_9 : decode cX7_advance 9 = .ok (.ifCond .ne 7, 3) := by decide +kernel
theorem dX7_advance_12 : decode cX7_advance 12 = .ok (.iconst 1, 1) := by decide +kernel
theorem dX7_advance_13 : decode cX7_advance 13 = .ok (.goto 20, 3) := by decide +kernel
theorem dX7_advance_16 : decode cX7_advance 16 = .ok (.aload_n 0, 1) := by decide +kernel
theorem dX7_advance_17 : decode cX7_advance 17 = .ok (.getfield 187, 3) := by decide +kernel
theorem dX7_advance_20 : decode cX7_advance 20 = .ok (.iload_n 1, 1) := by decide +kernel
theorem dX7_advance_21 : decode cX7_advance 21 = .ok (.iadd, 1) := by decide +kernel
theorem dX7_advance_22 : decode cX7_advance 22 = .ok (.sipush 14609, 3) := by decide +kernel
theorem dX7_advance_25 : decode cX7_advance 25 = .ok (.if_icmp .le 7, 3) := by decide +kernel
theorem dX7_advance_28 : decode cX7_advance 28 = .ok (.iconst 2, 1) := by decide +kernel
theorem dX7_advance_29 : decode cX7_advance 29 = .ok (.goto 4, 3) := by decide +kernel
theorem dX7_advance_32 : decode cX7_advance 32 = .ok (.iconst 0, 1) := by decide +kernel
theorem dX7_advance_33 : decode cX7_advance 33 = .ok (.invokevirtual 126, 3) := by decide +kernel
theorem dX7_advance_36 : decode cX7_advance 36 = .ok (.ifCond .eq 5, 3) := by decide +kernel
theorem dX7_advance_39 : decode cX7_advance 39 = .ok (.iconst 0, 1) := by decide +kernel
theorem dX7_advance_40 : decode cX7_advance 40 = .ok (.ireturn, 1) := by decide +kernel
theorem dX7_advance_41 : decode cX7_advance 41 = .ok (.aload_n 0, 1) := by decide +kernel
theorem dX7_advance_42 : decode cX7_advance 42 = .ok (.invokevirtual 190, 3) := by decide +kernel
theorem dX7_advance_45 : decode cX7_advance 45 = .ok (.istore_n 2, 1) := by decide +kernel
theorem dX7_advance_46 : decode cX7_advance 46 = .ok (.aload_n 0, 1) := by decide +kernel
theorem dX7_advance_47 : decode cX7_advance 47 = .ok (.invokevirtual 183, 3) := by decide +kernel
theorem dX7_advance_50 : decode cX7_advance 50 = .ok (.istore_n 3, 1) := by decide +kernel
theorem dX7_advance_51 : decode cX7_advance 51 = .ok (.aload_n 0, 1) := by decide +kernel
theorem dX7_advance_52 : decode cX7_advance 52 = .ok (.invokevirtual 197, 3) := by decide +kernel
theorem dX7_advance_55 : decode cX7_advance 55 = .ok (.istore 4, 2) := by decide +kernel
theorem dX7_advance_57 : decode cX7_advance 57 = .ok (.iconst 0, 1) := by decide +kernel
theorem dX7_advance_58 : decode cX7_advance 58 = .ok (.istore 5, 2) := by decide +kernel
theorem dX7_advance_60 : decode cX7_advance 60 = .ok (.iconst 0, 1) := by decide +kernel
theorem dX7_advance_61 : decode cX7_advance 61 = .ok (.istore 6, 2) := by decide +kernel
theorem dX7_advance_63 : decode cX7_advance 63 = .ok (.iload 6, 2) := by decide +kernel
theorem dX7_advance_65 : decode cX7_advance 65 = .ok (.iload_n 1, 1) := by decide +kernel
theorem dX7_advance_66 : decode cX7_advance 66 = .ok (.if_icmp .ge 135, 3) := by decide +kernel
theorem dX7_advance_69 : decode cX7_advance 69 = .ok (.iload_n 2, 1) := by decide +kernel
theorem dX7_advance_70 : decode cX7_advance 70 = .ok (.aload_n 0, 1) := by decide +kernel
theorem dX7_advance_71 : decode cX7_advance 71 = .ok (.getfield 187, 3) := by decide +kernel
theorem dX7_advance_74 : decode cX7_advance 74 = .ok (.if_icmp .gt 11, 3) := by decide +kernel
theorem dX7_advance_77 : decode cX7_advance 77 = .ok (.iload_n 3, 1) := by decide +kernel
theorem dX7_advance_78 : decode cX7_advance 78 = .ok (.aload_n 0, 1) := by decide +kernel
theorem dX7_advance_79 : decode cX7_advance 79 = .ok (.getfield 187, 3) := by decide +kernel
theorem dX7_advance_82 : decode cX7_advance 82 = .ok (.if_icmp .le 7, 3) := by decide +kernel
theorem dX7_advance_85 : decode cX7_advance 85 = .ok (.iconst 2, 1) := by decide +kernel
theorem dX7_advance_86 : decode cX7_advance 86 = .ok (.goto 17, 3) := by decide +kernel
theorem dX7_advance_89 : decode cX7_advance 89 = .ok (.iload 4, 2) := by decide +kernel
theorem dX7_advance_91 : decode cX7_advance 91 = .ok (.aload_n 0, 1) := by decide +kernel
theorem dX7_advance_92 : decode cX7_advance 92 = .ok (.getfield 187, 3) := by decide +kernel
theorem dX7_advance_95 : decode cX7_advance 95 = .ok (.if_icmp .le 7, 3) := by decide +kernel
theorem dX7_advance_98 : decode cX7_advance 98 = .ok (.iconst 1, 1) := by decide +kernel
theorem dX7_advance_99 : decode cX7_advance 99 = .ok (.goto 4, 3) := by decide +kernel
theorem dX7_advance_102 : decode cX7_advance 102 = .ok (.iconst 0, 1) := by decide +kernel
theorem dX7_advance_103 : decode cX7_advance 103 = .ok (.istore 7, 2) := by decide +kernel
theorem dX7_advance_105 : decode cX7_advance 105 = .ok (.aload_n 0, 1) := by decide +kernel
theorem dX7_advance_106 : decode cX7_advance 106 = .ok (.getfield 9, 3) := by decide +kernel
theorem dX7_advance_109 : decode cX7_advance 109 = .ok (.aload_n 0, 1) := by decide +kernel
theorem dX7_advance_110 : decode cX7_advance 110 = .ok (.getfield 187, 3) := by decide +kernel
theorem dX7_advance_113 : decode cX7_advance 113 = .ok (.iload 7, 2) := by decide +kernel
theorem dX7_advance_115 : decode cX7_advance 115 = .ok (.i2b, 1) := by decide +kernel
theorem dX7_advance_116 : decode cX7_advance 116 = .ok (.bastore, 1) := by decide +kernel
theorem dX7_advance_117 : decode cX7_advance 117 = .ok (.iload 5, 2) := by decide +kernel
theorem dX7_advance_119 : decode cX7_advance 119 = .ok (.iload 7, 2) := by decide +kernel
theorem dX7_advance_121 : decode cX7_advance 121 = .ok (.iconst 2, 1) := by decide +kernel
theorem dX7_advance_122 : decode cX7_advance 122 = .ok (.if_icmp .ne 7, 3) := by decide +kernel
theorem dX7_advance_125 : decode cX7_advance 125 = .ok (.iconst 1, 1) := by decide +kernel
theorem dX7_advance_126 : decode cX7_advance 126 = .ok (.goto 4, 3) := by decide +kernel
theorem dX7_advance_129 : decode cX7_advance 129 = .ok (.iconst 0, 1) := by decide +kernel
theorem dX7_advance_130 : decode cX7_advance 130 = .ok (.iadd, 1) := by decide +kernel
theorem dX7_advance_131 : decode cX7_advance 131 = .ok (.istore 5, 2) := by decide +kernel
theorem dX7_advance_133 : decode cX7_advance 133 = .ok (.aload_n 0, 1) := by decide +kernel
theorem dX7_advance_134 : decode cX7_advance 134 = .ok (.dup, 1) := by decide +kernel
theorem dX7_advance_135 : decode cX7_advance 135 = .ok (.getfield 200, 3) := by decide +kernel
theorem dX7_advance_138 : decode cX7_advance 138 = .ok (.iload 7, 2) := by decide +kernel
theorem dX7_advance_140 : decode cX7_advance 140 = .ok (.iconst 1, 1) := by decide +kernel
theorem dX7_advance_141 : decode cX7_advance 141 = .ok (.if_icmp .ne 7, 3) := by decide +kernel
theorem dX7_advance_144 : decode cX7_advance 144 = .ok (.iconst 1, 1) := by decide +kernel
theorem dX7_advance_145 : decode cX7_advance 145 = .ok (.goto 4, 3) := by decide +kernel
theorem dX7_advance_148 : decode cX7_advance 148 = .ok (.iconst 0, 1) := by decide +kernel
theorem dX7_advance_149 : decode cX7_advance 149 = .ok (.iadd, 1) := by decide +kernel
theorem dX7_advance_150 : decode cX7_advance 150 = .ok (.putfield 200, 3) := by decide +kernel
theorem dX7_advance_153 : decode cX7_advance 153 = .ok (.aload_n 0, 1) := by decide +kernel
theorem dX7_advance_154 : decode cX7_advance 154 = .ok (.getfield 13, 3) := by decide +kernel
theorem dX7_advance_157 : decode cX7_advance 157 = .ok (.aload_n 0, 1) := by decide +kernel
theorem dX7_advance_158 : decode cX7_advance 158 = .ok (.getfield 187, 3) := by decide +kernel
theorem dX7_advance_161 : decode cX7_advance 161 = .ok (.iconst 1, 1) := by decide +kernel
theorem dX7_advance_162 : decode cX7_advance 162 = .ok (.iadd, 1) := by decide +kernel
theorem dX7_advance_163 : decode cX7_advance 163 = .ok (.aload_n 0, 1) := by decide +kernel
theorem dX7_advance_164 : decode cX7_advance 164 = .ok (.getfield 13, 3) := by decide +kernel
theorem dX7_advance_167 : decode cX7_advance 167 = .ok (.aload_n 0, 1) := by decide +kernel
theorem dX7_advance_168 : decode cX7_advance 168 = .ok (.getfield 187, 3) := by decide +kernel
theorem dX7_advance_171 : decode cX7_advance 171 = .ok (.iaload, 1) := by decide +kernel
theorem dX7_advance_172 : decode cX7_advance 172 = .ok (.iload 7, 2) := by decide +kernel
theorem dX7_advance_174 : decode cX7_advance 174 = .ok (.iconst 2, 1) := by decide +kernel
theorem dX7_advance_175 : decode cX7_advance 175 = .ok (.if_icmp .ne 7, 3) := by decide +kernel
theorem dX7_advance_178 : decode cX7_advance 178 = .ok (.iconst 0, 1) := by decide +kernel
theorem dX7_advance_179 : decode cX7_advance 179 = .ok (.goto 4, 3) := by decide +kernel
theorem dX7_advance_182 : decode cX7_advance 182 = .ok (.iconst 1, 1) := by decide +kernel
theorem dX7_advance_183 : decode cX7_advance 183 = .ok (.iadd, 1) := by decide +kernel
theorem dX7_advance_184 : decode cX7_advance 184 = .ok (.iastore, 1) := by decide +kernel
theorem dX7_advance_185 : decode cX7_advance 185 = .ok (.aload_n 0, 1) := by decide +kernel
theorem dX7_advance_186 : decode cX7_advance 186 = .ok (.dup, 1) := by decide +kernel
theorem dX7_advance_187 : decode cX7_advance 187 = .ok (.getfield 187, 3) := by decide +kernel
theorem dX7_advance_190 : decode cX7_advance 190 = .ok (.iconst 1, 1) := by decide +kernel
theorem dX7_advance_191 : decode cX7_advance 191 = .ok (.iadd, 1) := by decide +kernel
theorem dX7_advance_192 : decode cX7_advance 192 = .ok (.putfield 187, 3) := by decide +kernel
theorem dX7_advance_195 : decode cX7_advance 195 = .ok (.iinc 6 1, 3) := by decide +kernel
theorem dX7_advance_198 : decode cX7_advance 198 = .ok (.goto (-135), 3) := by decide +kernel
theorem dX7_advance_201 : decode cX7_advance 201 = .ok (.aload_n 0, 1) := by decide +kernel
theorem dX7_advance_202 : decode cX7_advance 202 = .ok (.dup, 1) := by decide +kernel
theorem dX7_advance_203 : decode cX7_advance 203 = .ok (.getfield 203, 3) := by decide +kernel
theorem dX7_advance_206 : decode cX7_advance 206 = .ok (.iload 5, 2) := by decide +kernel
theorem dX7_advance_208 : decode cX7_advance 208 = .ok (.iadd, 1) := by decide +kernel
theorem dX7_advance_209 : decode cX7_advance 209 = .ok (.putfield 203, 3) := by decide +kernel
theorem dX7_advance_212 : decode cX7_advance 212 = .ok (.iload 5, 2) := by decide +kernel
theorem dX7_advance_214 : decode cX7_advance 214 = .ok (.ireturn, 1) := by decide +kernel
theorem dX7_isTermOf_0 : decode cX7_isTermOf 0 = .ok (.iload_n 1, 1) := by decide +kernel
theorem dX7_isTermOf_1 : decode cX7_isTermOf 1 = .ok (.iconst 0, 1) := by decide +kernel
theorem dX7_isTermOf_2 : decode cX7_isTermOf 2 = .ok (.iconst 3, 1) := by decide +kernel
theorem dX7_isTermOf_3 : decode cX7_isTermOf 3 = .ok (.invokestatic 122, 3) := by decide +kernel
theorem dX7_isTermOf_6 : decode cX7_isTermOf 6 = .ok (.ifCond .eq 33, 3) := by decide +kernel
theorem dX7_isTermOf_9 : decode cX7_isTermOf 9 = .ok (.iload_n 2, 1) := by decide +kernel
theorem dX7_isTermOf_10 : decode cX7_isTermOf 10 = .ok (.iconst 0, 1) := by decide +kernel
theorem dX7_isTermOf_11 : decode cX7_isTermOf 11 = .ok (.bipush 60, 2) := by decide +kernel
theorem dX7_isTermOf_13 : decode cX7_isTermOf 13 = .ok (.invokestatic 122, 3) := by decide +kernel
theorem dX7_isTermOf_16 : decode cX7_isTermOf 16 = .ok (.ifCond .eq 23, 3) := by decide +kernel
theorem dX7_isTermOf_19 : decode cX7_isTermOf 19 = .ok (.iload_n 3, 1) := by decide +kernel
theorem dX7_isTermOf_20 : decode cX7_isTermOf 20 = .ok (.iconst 0, 1) := by decide +kernel
theorem dX7_isTermOf_21 : decode cX7_isTermOf 21 = .ok (.bipush 99, 2) := by decide +kernel
theorem dX7_isTermOf_23 : decode cX7_isTermOf 23 = .ok (.invokestatic 122, 3) := by decide +kernel
theorem dX7_isTermOf_26 : decode cX7_isTermOf 26 = .ok (.ifCond .eq 13, 3) := by decide +kernel
theorem dX7_isTermOf_29 : decode cX7_isTermOf 29 = .ok (.iload_n 2, 1) := by decide +kernel
theorem dX7_isTermOf_30 : decode cX7_isTermOf 30 = .ok (.iload_n 3, 1) := by decide +kernel
theorem dX7_isTermOf_31 : decode cX7_isTermOf 31 = .ok (.iadd, 1) := by decide +kernel
theorem dX7_isTermOf_32 : decode cX7_isTermOf 32 = .ok (.ifCond .le 7, 3) := by decide +kernel
theorem dX7_isTermOf_35 : decode cX7_isTermOf 35 = .ok (.iconst 1, 1) := by decide +kernel
theorem dX7_isTermOf_36 : decode cX7_isTermOf 36 = .ok (.goto 4, 3) := by decide +kernel
theorem dX7_isTermOf_39 : decode cX7_isTermOf 39 = .ok (.iconst 0, 1) := by decide +kernel
theorem dX7_isTermOf_40 : decode cX7_isTermOf 40 = .ok (.ireturn, 1) := by decide +kernel
theorem dX7_imposes_0 : decode cX7_imposes 0 = .ok (.aload_n 0, 1) := by decide +kernel
theorem dX7_imposes_1 : decode cX7_imposes 1 = .ok (.getfield 140, 3) := by decide +kernel
theorem dX7_imposes_4 : decode cX7_imposes 4 = .ok (.istore 5, 2) := by decide +kernel
theorem dX7_imposes_6 : decode cX7_imposes 6 = .ok (.aload_n 0, 1) := by decide +kernel
theorem dX7_imposes_7 : decode cX7_imposes 7 = .ok (.getfield 17, 3) := by decide +kernel
theorem dX7_imposes_10 : decode cX7_imposes 10 = .ok (.iload 5, 2) := by decide +kernel
theorem dX7_imposes_12 : decode cX7_imposes 12 = .ok (.iload_n 2, 1) := by decide +kernel
theorem dX7_imposes_13 : decode cX7_imposes 13 = .ok (.iastore, 1) := by decide +kernel
theorem dX7_imposes_14 : decode cX7_imposes 14 = .ok (.aload_n 0, 1) := by decide +kernel
theorem dX7_imposes_15 : decode cX7_imposes 15 = .ok (.getfield 20, 3) := by decide +kernel
theorem dX7_imposes_18 : decode cX7_imposes 18 = .ok (.iload 5, 2) := by decide +kernel
theorem dX7_imposes_20 : decode cX7_imposes 20 = .ok (.iload_n 3, 1) := by decide +kernel
theorem dX7_imposes_21 : decode cX7_imposes 21 = .ok (.iastore, 1) := by decide +kernel
theorem dX7_imposes_22 : decode cX7_imposes 22 = .ok (.aload_n 0, 1) := by decide +kernel
theorem dX7_imposes_23 : decode cX7_imposes 23 = .ok (.getfield 23, 3) := by decide +kernel
theorem dX7_imposes_26 : decode cX7_imposes 26 = .ok (.iload 5, 2) := by decide +kernel
theorem dX7_imposes_28 : decode cX7_imposes 28 = .ok (.iload 4, 2) := by decide +kernel
theorem dX7_imposes_30 : decode cX7_imposes 30 = .ok (.iastore, 1) := by decide +kernel
theorem dX7_imposes_31 : decode cX7_imposes 31 = .ok (.aload_n 0, 1) := by decide +kernel
theorem dX7_imposes_32 : decode cX7_imposes 32 = .ok (.getfield 26, 3) := by decide +kernel
theorem dX7_imposes_35 : decode cX7_imposes 35 = .ok (.iload 5, 2) := by decide +kernel
theorem dX7_imposes_37 : decode cX7_imposes 37 = .ok (.aload_n 0, 1) := by decide +kernel
theorem dX7_imposes_38 : decode cX7_imposes 38 = .ok (.getfield 187, 3) := by decide +kernel
theorem dX7_imposes_41 : decode cX7_imposes 41 = .ok (.iastore, 1) := by decide +kernel
theorem dX7_imposes_42 : decode cX7_imposes 42 = .ok (.aload_n 0, 1) := by decide +kernel
theorem dX7_imposes_43 : decode cX7_imposes 43 = .ok (.getfield 29, 3) := by decide +kernel
theorem dX7_imposes_46 : decode cX7_imposes 46 = .ok (.iload 5, 2) := by decide +kernel
theorem dX7_imposes_48 : decode cX7_imposes 48 = .ok (.aload_n 0, 1) := by decide +kernel
theorem dX7_imposes_49 : decode cX7_imposes 49 = .ok (.getfield 187, 3) := by decide +kernel
theorem dX7_imposes_52 : decode cX7_imposes 52 = .ok (.iastore, 1) := by decide +kernel
theorem dX7_imposes_53 : decode cX7_imposes 53 = .ok (.aload_n 0, 1) := by decide +kernel
theorem dX7_imposes_54 : decode cX7_imposes 54 = .ok (.getfield 32, 3) := by decide +kernel
theorem dX7_imposes_57 : decode cX7_imposes 57 = .ok (.iload 5, 2) := by decide +kernel
theorem dX7_imposes_59 : decode cX7_imposes 59 = .ok (.iload_n 1, 1) := by decide +kernel
theorem dX7_imposes_60 : decode cX7_imposes 60 = .ok (.iastore, 1) := by decide +kernel
theorem dX7_imposes_61 : decode cX7_imposes 61 = .ok (.aload_n 0, 1) := by decide +kernel
theorem dX7_imposes_62 : decode cX7_imposes 62 = .ok (.dup, 1) := by decide +kernel
theorem dX7_imposes_63 : decode cX7_imposes 63 = .ok (.getfield 140, 3) := by decide +kernel
theorem dX7_imposes_66 : decode cX7_imposes 66 = .ok (.iconst 1, 1) := by decide +kernel
theorem dX7_imposes_67 : decode cX7_imposes 67 = .ok (.iadd, 1) := by decide +kernel
theorem dX7_imposes_68 : decode cX7_imposes 68 = .ok (.putfield 140, 3) := by decide +kernel
theorem dX7_imposes_71 : decode cX7_imposes 71 = .ok (.aload_n 0, 1) := by decide +kernel
theorem dX7_imposes_72 : decode cX7_imposes 72 = .ok (.invokevirtual 206, 3) := by decide +kernel
theorem dX7_imposes_75 : decode cX7_imposes 75 = .ok (.iload 5, 2) := by decide +kernel
theorem dX7_imposes_77 : decode cX7_imposes 77 = .ok (.ireturn, 1) := by decide +kernel
theorem dX7_impose_0 : decode cX7_impose 0 = .ok (.aload_n 0, 1) := by decide +kernel
theorem dX7_impose_1 : decode cX7_impose 1 = .ok (.aload_n 0, 1) := by decide +kernel
theorem dX7_impose_2 : decode cX7_impose 2 = .ok (.iload_n 1, 1) := by decide +kernel
theorem dX7_impose_3 : decode cX7_impose 3 = .ok (.iload_n 2, 1) := by decide +kernel
theorem dX7_impose_4 : decode cX7_impose 4 = .ok (.iload_n 3, 1) := by decide +kernel
theorem dX7_impose_5 : decode cX7_impose 5 = .ok (.invokevirtual 209, 3) := by decide +kernel
theorem dX7_impose_8 : decode cX7_impose 8 = .ok (.ifCond .ne 7, 3) := by decide +kernel
theorem dX7_impose_11 : decode cX7_impose 11 = .ok (.iconst 1, 1) := by decide +kernel
theorem dX7_impose_12 : decode cX7_impose 12 = .ok (.goto 17, 3) := by decide +kernel
theorem dX7_impose_15 : decode cX7_impose 15 = .ok (.aload_n 0, 1) := by decide +kernel
theorem dX7_impose_16 : decode cX7_impose 16 = .ok (.getfield 140, 3) := by decide +kernel
theorem dX7_impose_19 : decode cX7_impose 19 = .ok (.bipush 10, 2) := by decide +kernel
theorem dX7_impose_21 : decode cX7_impose 21 = .ok (.if_icmp .ne 7, 3) := by decide +kernel
theorem dX7_impose_24 : decode cX7_impose 24 = .ok (.iconst 2, 1) := by decide +kernel
theorem dX7_impose_25 : decode cX7_impose 25 = .ok (.goto 4, 3) := by decide +kernel
theorem dX7_impose_28 : decode cX7_impose 28 = .ok (.iconst 0, 1) := by decide +kernel
theorem dX7_impose_29 : decode cX7_impose 29 = .ok (.invokevirtual 126, 3) := by decide +kernel
theorem dX7_impose_32 : decode cX7_impose 32 = .ok (.ifCond .eq 5, 3) := by decide +kernel
theorem dX7_impose_35 : decode cX7_impose 35 = .ok (.iconst 0, 1) := by decide +kernel
theorem dX7_impose_36 : decode cX7_impose 36 = .ok (.ireturn, 1) := by decide +kernel
theorem dX7_impose_37 : decode cX7_impose 37 = .ok (.aload_n 0, 1) := by decide +kernel
theorem dX7_impose_38 : decode cX7_impose 38 = .ok (.iconst (-1), 1) := by decide +kernel
theorem dX7_impose_39 : decode cX7_impose 39 = .ok (.iload_n 1, 1) := by decide +kernel
theorem dX7_impose_40 : decode cX7_impose 40 = .ok (.iload_n 2, 1) := by decide +kernel
theorem dX7_impose_41 : decode cX7_impose 41 = .ok (.iload_n 3, 1) := by decide +kernel
theorem dX7_impose_42 : decode cX7_impose 42 = .ok (.invokevirtual 212, 3) := by decide +kernel
theorem dX7_impose_45 : decode cX7_impose 45 = .ok (.ireturn, 1) := by decide +kernel
theorem dX7_canFollow_0 : decode cX7_canFollow 0 = .ok (.aload_n 0, 1) := by decide +kernel
theorem dX7_canFollow_1 : decode cX7_canFollow 1 = .ok (.getfield 140, 3) := by decide +kernel
theorem dX7_canFollow_4 : decode cX7_canFollow 4 = .ok (.bipush 10, 2) := by decide +kernel
theorem dX7_canFollow_6 : decode cX7_canFollow 6 = .ok (.if_icmp .ge 28, 3) := by decide +kernel
theorem dX7_canFollow_9 : decode cX7_canFollow 9 = .ok (.aload_n 0, 1) := by decide +kernel
theorem dX7_canFollow_10 : decode cX7_canFollow 10 = .ok (.iload_n 1, 1) := by decide +kernel
theorem dX7_canFollow_11 : decode cX7_canFollow 11 = .ok (.invokevirtual 165, 3) := by decide +kernel
theorem dX7_canFollow_14 : decode cX7_canFollow 14 = .ok (.ifCond .eq 20, 3) := by decide +kernel
theorem dX7_canFollow_17 : decode cX7_canFollow 17 = .ok (.aload_n 0, 1) := by decide +kernel
theorem dX7_canFollow_18 : decode cX7_canFollow 18 = .ok (.getfield 81, 3) := by decide +kernel
theorem dX7_canFollow_21 : decode cX7_canFollow 21 = .ok (.iload_n 1, 1) := by decide +kernel
theorem dX7_canFollow_22 : decode cX7_canFollow 22 = .ok (.iaload, 1) := by decide +kernel
theorem dX7_canFollow_23 : decode cX7_canFollow 23 = .ok (.aload_n 0, 1) := by decide +kernel
theorem dX7_canFollow_24 : decode cX7_canFollow 24 = .ok (.getfield 187, 3) := by decide +kernel
theorem dX7_canFollow_27 : decode cX7_canFollow 27 = .ok (.if_icmp .le 7, 3) := by decide +kernel
theorem dX7_canFollow_30 : decode cX7_canFollow 30 = .ok (.iconst 1, 1) := by decide +kernel
theorem dX7_canFollow_31 : decode cX7_canFollow 31 = .ok (.goto 4, 3) := by decide +kernel
theorem dX7_canFollow_34 : decode cX7_canFollow 34 = .ok (.iconst 0, 1) := by decide +kernel
theorem dX7_canFollow_35 : decode cX7_canFollow 35 = .ok (.ireturn, 1) := by decide +kernel
theorem dX7_imposeConsecutive_0 : decode cX7_imposeConsecutive 0 = .ok (.aload_n 0, 1) := by decide +kernel
theorem dX7_imposeConsecutive_1 : decode cX7_imposeConsecutive 1 = .ok (.aload_n 0, 1) := by decide +kernel
theorem dX7_imposeConsecutive_2 : decode cX7_imposeConsecutive 2 = .ok (.iload_n 1, 1) := by decide +kernel
theorem dX7_imposeConsecutive_3 : decode cX7_imposeConsecutive 3 = .ok (.invokevirtual 216, 3) := by decide +kernel
theorem dX7_imposeConsecutive_6 : decode cX7_imposeConsecutive 6 = .ok (.ifCond .ne 7, 3) := by decide +kernel
theorem dX7_imposeConsecutive_9 : decode cX7_imposeConsecutive 9 = .ok (.iconst 1, 1) := by decide +kernel
theorem dX7_imposeConsecutive_10 : decode cX7_imposeConsecutive 10 = .ok (.goto 31, 3) := by decide +kernel
theorem dX7_imposeConsecutive_13 : decode cX7_imposeConsecutive 13 = .ok (.aload_n 0, 1) := by decide +kernel
theorem dX7_imposeConsecutive_14 : decode cX7_imposeConsecutive 14 = .ok (.iload_n 2, 1) := by decide +kernel
theorem dX7_imposeConsecutive_15 : decode cX7_imposeConsecutive 15 = .ok (.iload_n 3, 1) := by decide +kernel
theorem dX7_imposeConsecutive_16 : decode cX7_imposeConsecutive 16 = .ok (.iload 4, 2) := by decide +kernel
theorem dX7_imposeConsecutive_18 : decode cX7_imposeConsecutive 18 = .ok (.invokevirtual 209, 3) := by decide +kernel
theorem dX7_imposeConsecutive_21 : decode cX7_imposeConsecutive 21 = .ok (.ifCond .ne 7, 3) := by decide +kernel
theorem dX7_imposeConsecutive_24 : decode cX7_imposeConsecutive 24 = .ok (.iconst 2, 1) := by decide +kernel
theorem dX7_imposeConsecutive_25 : decode cX7_imposeConsecutive 25 = .ok (.goto 16, 3) := by decide +kernel
theorem dX7_imposeConsecutive_28 : decode cX7_imposeConsecutive 28 = .ok (.aload_n 0, 1) := by decide +kernel
theorem dX7_imposeConsecutive_29 : decode cX7_imposeConsecutive 29 = .ok (.iload_n 1, 1) := by decide +kernel
theorem dX7_imposeConsecutive_30 : decode cX7_imposeConsecutive 30 = .ok (.invokevirtual 219, 3) := by decide +kernel
theorem dX7_imposeConsecutive_33 : decode cX7_imposeConsecutive 33 = .ok (.ifCond .eq 7, 3) := by decide +kernel
theorem dX7_imposeConsecutive_36 : decode cX7_imposeConsecutive 36 = .ok (.iconst 0, 1) := by decide +kernel
theorem dX7_imposeConsecutive_37 : decode cX7_imposeConsecutive 37 = .ok (.goto 4, 3) := by decide +kernel
theorem dX7_imposeConsecutive_40 : decode cX7_imposeConsecutive 40 = .ok (.iconst 3, 1) := by decide +kernel
theorem dX7_imposeConsecutive_41 : decode cX7_imposeConsecutive 41 = .ok (.invokevirtual 126, 3) := by decide +kernel
theorem dX7_imposeConsecutive_44 : decode cX7_imposeConsecutive 44 = .ok (.ifCond .eq 5, 3) := by decide +kernel
theorem dX7_imposeConsecutive_47 : decode cX7_imposeConsecutive 47 = .ok (.iconst 0, 1) := by decide +kernel
theorem dX7_imposeConsecutive_48 : decode cX7_imposeConsecutive 48 = .ok (.ireturn, 1) := by decide +kernel
theorem dX7_imposeConsecutive_49 : decode cX7_imposeConsecutive 49 = .ok (.aload_n 0, 1) := by decide +kernel
theorem dX7_imposeConsecutive_50 : decode cX7_imposeConsecutive 50 = .ok (.iload_n 1, 1) := by decide +kernel
theorem dX7_imposeConsecutive_51 : decode cX7_imposeConsecutive 51 = .ok (.iload_n 2, 1) := by decide +kernel
theorem dX7_imposeConsecutive_52 : decode cX7_imposeConsecutive 52 = .ok (.iload_n 3, 1) := by decide +kernel
theorem dX7_imposeConsecutive_53 : decode cX7_imposeConsecutive 53 = .ok (.iload 4, 2) := by decide +kernel
theorem dX7_imposeConsecutive_55 : decode cX7_imposeConsecutive 55 = .ok (.invokevirtual 212, 3) := by decide +kernel
theorem dX7_imposeConsecutive_58 : decode cX7_imposeConsecutive 58 = .ok (.ireturn, 1) := by decide +kernel
theorem dX7_canHaveRemand_0 : decode cX7_canHaveRemand 0 = .ok (.aload_n 0, 1) := by decide +kernel
theorem dX7_canHaveRemand_1 : decode cX7_canHaveRemand 1 = .ok (.iload_n 1, 1) := by decide +kernel
theorem dX7_canHaveRemand_2 : decode cX7_canHaveRemand 2 = .ok (.invokevirtual 165, 3) := by decide +kernel
theorem dX7_canHaveRemand_5 : decode cX7_canHaveRemand 5 = .ok (.ifCond .eq 29, 3) := by decide +kernel
theorem dX7_canHaveRemand_8 : decode cX7_canHaveRemand 8 = .ok (.aload_n 0, 1) := by decide +kernel
theorem dX7_canHaveRemand_9 : decode cX7_canHaveRemand 9 = .ok (.getfield 26, 3) := by decide +kernel
theorem dX7_canHaveRemand_12 : decode cX7_canHaveRemand 12 = .ok (.iload_n 1, 1) := by decide +kernel
theorem dX7_canHaveRemand_13 : decode cX7_canHaveRemand 13 = .ok (.iaload, 1) := by decide +kernel
theorem dX7_canHaveRemand_14 : decode cX7_canHaveRemand 14 = .ok (.aload_n 0, 1) := by decide +kernel
theorem dX7_canHaveRemand_15 : decode cX7_canHaveRemand 15 = .ok (.getfield 187, 3) := by decide +kernel
theorem dX7_canHaveRemand_18 : decode cX7_canHaveRemand 18 = .ok (.if_icmp .ne 16, 3) := by decide +kernel
theorem dX7_canHaveRemand_21 : decode cX7_canHaveRemand 21 = .ok (.aload_n 0, 1) := by decide +kernel
theorem dX7_canHaveRemand_22 : decode cX7_canHaveRemand 22 = .ok (.getfield 143, 3) := by decide +kernel
theorem dX7_canHaveRemand_25 : decode cX7_canHaveRemand 25 = .ok (.bipush 8, 2) := by decide +kernel
theorem dX7_canHaveRemand_27 : decode cX7_canHaveRemand 27 = .ok (.if_icmp .ge 7, 3) := by decide +kernel
theorem dX7_canHaveRemand_30 : decode cX7_canHaveRemand 30 = .ok (.iconst 1, 1) := by decide +kernel
theorem dX7_canHaveRemand_31 : decode cX7_canHaveRemand 31 = .ok (.goto 4, 3) := by decide +kernel
theorem dX7_canHaveRemand_34 : decode cX7_canHaveRemand 34 = .ok (.iconst 0, 1) := by decide +kernel
theorem dX7_canHaveRemand_35 : decode cX7_canHaveRemand 35 = .ok (.ireturn, 1) := by decide +kernel
theorem dX7_addRemand_0 : decode cX7_addRemand 0 = .ok (.iload_n 2, 1) := by decide +kernel
theorem dX7_addRemand_1 : decode cX7_addRemand 1 = .ok (.ifCond .lt 20, 3) := by decide +kernel
theorem dX7_addRemand_4 : decode cX7_addRemand 4 = .ok (.iload_n 3, 1) := by decide +kernel
theorem dX7_addRemand_5 : decode cX7_addRemand 5 = .ok (.iload_n 2, 1) := by decide +kernel
theorem dX7_addRemand_6 : decode cX7_addRemand 6 = .ok (.if_icmp .lt 15, 3) := by decide +kernel
theorem dX7_addRemand_9 : decode cX7_addRemand 9 = .ok (.iload_n 3, 1) := by decide +kernel
theorem dX7_addRemand_10 : decode cX7_addRemand 10 = .ok (.aload_n 0, 1) := by decide +kernel
theorem dX7_addRemand_11 : decode cX7_addRemand 11 = .ok (.getfield 187, 3) := by decide +kernel
theorem dX7_addRemand_14 : decode cX7_addRemand 14 = .ok (.if_icmp .ge 7, 3) := by decide +kernel
theorem dX7_addRemand_17 : decode cX7_addRemand 17 = .ok (.iconst 1, 1) := by decide +kernel
theorem dX7_addRemand_18 : decode cX7_addRemand 18 = .ok (.goto 4, 3) := by decide +kernel
theorem dX7_addRemand_21 : decode cX7_addRemand 21 = .ok (.iconst 0, 1) := by decide +kernel
theorem dX7_addRemand_22 : decode cX7_addRemand 22 = .ok (.istore 4, 2) := by decide +kernel
theorem dX7_addRemand_24 : decode cX7_addRemand 24 = .ok (.aload_n 0, 1) := by decide +kernel
theorem dX7_addRemand_25 : decode cX7_addRemand 25 = .ok (.aload_n 0, 1) := by decide +kernel
theorem dX7_addRemand_26 : decode cX7_addRemand 26 = .ok (.iload_n 1, 1) := by decide +kernel
theorem dX7_addRemand_27 : decode cX7_addRemand 27 = .ok (.invokevirtual 216, 3) := by decide +kernel
theorem dX7_addRemand_30 : decode cX7_addRemand 30 = .ok (.ifCond .ne 7, 3) := by decide +kernel
theorem dX7_addRemand_33 : decode cX7_addRemand 33 = .ok (.iconst 1, 1) := by decide +kernel
theorem dX7_addRemand_34 : decode cX7_addRemand 34 = .ok (.goto 25, 3) := by decide +kernel
theorem dX7_addRemand_37 : decode cX7_addRemand 37 = .ok (.iload 4, 2) := by decide +kernel
theorem dX7_addRemand_39 : decode cX7_addRemand 39 = .ok (.ifCond .ne 7, 3) := by decide +kernel
theorem dX7_addRemand_42 : decode cX7_addRemand 42 = .ok (.iconst 2, 1) := by decide +kernel
theorem dX7_addRemand_43 : decode cX7_addRemand 43 = .ok (.goto 16, 3) := by decide +kernel
theorem dX7_addRemand_46 : decode cX7_addRemand 46 = .ok (.aload_n 0, 1) := by decide +kernel
theorem dX7_addRemand_47 : decode cX7_addRemand 47 = .ok (.iload_n 1, 1) := by decide +kernel
theorem dX7_addRemand_48 : decode cX7_addRemand 48 = .ok (.invokevirtual 222, 3) := by decide +kernel
theorem dX7_addRemand_51 : decode cX7_addRemand 51 = .ok (.ifCond .eq 7, 3) := by decide +kernel
theorem dX7_addRemand_54 : decode cX7_addRemand 54 = .ok (.iconst 0, 1) := by decide +kernel
theorem dX7_addRemand_55 : decode cX7_addRemand 55 = .ok (.goto 4, 3) := by decide +kernel
theorem dX7_addRemand_58 : decode cX7_addRemand 58 = .ok (.iconst 3, 1) := by decide +kernel
theorem dX7_addRemand_59 : decode cX7_addRemand 59 = .ok (.invokevirtual 126, 3) := by decide +kernel
theorem dX7_addRemand_62 : decode cX7_addRemand 62 = .ok (.ifCond .eq 5, 3) := by decide +kernel
theorem dX7_addRemand_65 : decode cX7_addRemand 65 = .ok (.iconst 0, 1) := by decide +kernel
theorem dX7_addRemand_66 : decode cX7_addRemand 66 = .ok (.ireturn, 1) := by decide +kernel
theorem dX7_addRemand_67 : decode cX7_addRemand 67 = .ok (.aload_n 0, 1) := by decide +kernel
theorem dX7_addRemand_68 : decode cX7_addRemand 68 = .ok (.getfield 39, 3) := by decide +kernel
theorem dX7_addRemand_71 : decode cX7_addRemand 71 = .ok (.aload_n 0, 1) := by decide +kernel
theorem dX7_addRemand_72 : decode cX7_addRemand 72 = .ok (.getfield 143, 3) := by decide +kernel
theorem dX7_addRemand_75 : decode cX7_addRemand 75 = .ok (.iload_n 1, 1) := by decide +kernel
theorem dX7_addRemand_76 : decode cX7_addRemand 76 = .ok (.iastore, 1) := by decide +kernel
theorem dX7_addRemand_77 : decode cX7_addRemand 77 = .ok (.aload_n 0, 1) := by decide +kernel
theorem dX7_addRemand_78 : decode cX7_addRemand 78 = .ok (.getfield 42, 3) := by decide +kernel
theorem dX7_addRemand_81 : decode cX7_addRemand 81 = .ok (.aload_n 0, 1) := by decide +kernel
theorem dX7_addRemand_82 : decode cX7_addRemand 82 = .ok (.getfield 143, 3) := by decide +kernel
theorem dX7_addRemand_85 : decode cX7_addRemand 85 = .ok (.iload_n 2, 1) := by decide +kernel
theorem dX7_addRemand_86 : decode cX7_addRemand 86 = .ok (.iastore, 1) := by decide +kernel
theorem dX7_addRemand_87 : decode cX7_addRemand 87 = .ok (.aload_n 0, 1) := by decide +kernel
theorem dX7_addRemand_88 : decode cX7_addRemand 88 = .ok (.getfield 45, 3) := by decide +kernel
theorem dX7_addRemand_91 : decode cX7_addRemand 91 = .ok (.aload_n 0, 1) := by decide +kernel
theorem dX7_addRemand_92 : decode cX7_addRemand 92 = .ok (.getfield 143, 3) := by decide +kernel
theorem dX7_addRemand_95 : decode cX7_addRemand 95 = .ok (.iload_n 3, 1) := by decide +kernel
theorem dX7_addRemand_96 : decode cX7_addRemand 96 = .ok (.iastore, 1) := by decide +kernel
theorem dX7_addRemand_97 : decode cX7_addRemand 97 = .ok (.aload_n 0, 1) := by decide +kernel
theorem dX7_addRemand_98 : decode cX7_addRemand 98 = .ok (.dup, 1) := by decide +kernel
theorem dX7_addRemand_99 : decode cX7_addRemand 99 = .ok (.getfield 143, 3) := by decide +kernel
theorem dX7_addRemand_102 : decode cX7_addRemand 102 = .ok (.iconst 1, 1) := by decide +kernel
theorem dX7_addRemand_103 : decode cX7_addRemand 103 = .ok (.iadd, 1) := by decide +kernel
theorem dX7_addRemand_104 : decode cX7_addRemand 104 = .ok (.putfield 143, 3) := by decide +kernel
theorem dX7_addRemand_107 : decode cX7_addRemand 107 = .ok (.aload_n 0, 1) := by decide +kernel
theorem dX7_addRemand_108 : decode cX7_addRemand 108 = .ok (.invokevirtual 206, 3) := by decide +kernel
theorem dX7_addRemand_111 : decode cX7_addRemand 111 = .ok (.aload_n 0, 1) := by decide +kernel
theorem dX7_addRemand_112 : decode cX7_addRemand 112 = .ok (.invokevirtual 225, 3) := by decide +kernel
theorem dX7_addRemand_115 : decode cX7_addRemand 115 = .ok (.aload_n 0, 1) := by decide +kernel
theorem dX7_addRemand_116 : decode cX7_addRemand 116 = .ok (.getfield 75, 3) := by decide +kernel
theorem dX7_addRemand_119 : decode cX7_addRemand 119 = .ok (.iload_n 1, 1) := by decide +kernel
theorem dX7_addRemand_120 : decode cX7_addRemand 120 = .ok (.iaload, 1) := by decide +kernel
theorem dX7_addRemand_121 : decode cX7_addRemand 121 = .ok (.ireturn, 1) := by decide +kernel
theorem dX7_isNext_0 : decode cX7_isNext 0 = .ok (.aload_n 0, 1) := by decide +kernel
theorem dX7_isNext_1 : decode cX7_isNext 1 = .ok (.iload_n 1, 1) := by decide +kernel
theorem dX7_isNext_2 : decode cX7_isNext 2 = .ok (.invokevirtual 165, 3) := by decide +kernel
theorem dX7_isNext_5 : decode cX7_isNext 5 = .ok (.ifCond .eq 17, 3) := by decide +kernel
theorem dX7_isNext_8 : decode cX7_isNext 8 = .ok (.aload_n 0, 1) := by decide +kernel
theorem dX7_isNext_9 : decode cX7_isNext 9 = .ok (.getfield 32, 3) := by decide +kernel
theorem dX7_isNext_12 : decode cX7_isNext 12 = .ok (.iload_n 1, 1) := by decide +kernel
theorem dX7_isNext_13 : decode cX7_isNext 13 = .ok (.iaload, 1) := by decide +kernel
theorem dX7_isNext_14 : decode cX7_isNext 14 = .ok (.iload_n 2, 1) := by decide +kernel
theorem dX7_isNext_15 : decode cX7_isNext 15 = .ok (.if_icmp .ne 7, 3) := by decide +kernel
theorem dX7_isNext_18 : decode cX7_isNext 18 = .ok (.iconst 1, 1) := by decide +kernel
theorem dX7_isNext_19 : decode cX7_isNext 19 = .ok (.goto 4, 3) := by decide +kernel
theorem dX7_isNext_22 : decode cX7_isNext 22 = .ok (.iconst 0, 1) := by decide +kernel
theorem dX7_isNext_23 : decode cX7_isNext 23 = .ok (.ireturn, 1) := by decide +kernel
theorem dX7_quashes_0 : decode cX7_quashes 0 = .ok (.iconst 0, 1) := by decide +kernel
theorem dX7_quashes_1 : decode cX7_quashes 1 = .ok (.istore_n 2, 1) := by decide +kernel
theorem dX7_quashes_2 : decode cX7_quashes 2 = .ok (.aload_n 0, 1) := by decide +kernel
theorem dX7_quashes_3 : decode cX7_quashes 3 = .ok (.getfield 32, 3) := by decide +kernel
theorem dX7_quashes_6 : decode cX7_quashes 6 = .ok (.iload_n 1, 1) := by decide +kernel
theorem dX7_quashes_7 : decode cX7_quashes 7 = .ok (.iaload, 1) := by decide +kernel
theorem dX7_quashes_8 : decode cX7_quashes 8 = .ok (.istore_n 3, 1) := by decide +kernel
theorem dX7_quashes_9 : decode cX7_quashes 9 = .ok (.iconst 0, 1) := by decide +kernel
theorem dX7_quashes_10 : decode cX7_quashes 10 = .ok (.istore 4, 2) := by decide +kernel
theorem dX7_quashes_12 : decode cX7_quashes 12 = .ok (.iload 4, 2) := by decide +kernel
theorem dX7_quashes_14 : decode cX7_quashes 14 = .ok (.aload_n 0, 1) := by decide +kernel
theorem dX7_quashes_15 : decode cX7_quashes 15 = .ok (.getfield 140, 3) := by decide +kernel
theorem dX7_quashes_18 : decode cX7_quashes 18 = .ok (.if_icmp .ge 43, 3) := by decide +kernel
theorem dX7_quashes_21 : decode cX7_quashes 21 = .ok (.aload_n 0, 1) := by decide +kernel
theorem dX7_quashes_22 : decode cX7_quashes 22 = .ok (.iload 4, 2) := by decide +kernel
theorem dX7_quashes_24 : decode cX7_quashes 24 = .ok (.iload_n 1, 1) := by decide +kernel
theorem dX7_quashes_25 : decode cX7_quashes 25 = .ok (.invokevirtual 228, 3) := by decide +kernel
theorem dX7_quashes_28 : decode cX7_quashes 28 = .ok (.ifCond .eq 27, 3) := by decide +kernel
theorem dX7_quashes_31 : decode cX7_quashes 31 = .ok (.aload_n 0, 1) := by decide +kernel
theorem dX7_quashes_32 : decode cX7_quashes 32 = .ok (.getfield 29, 3) := by decide +kernel
theorem dX7_quashes_35 : decode cX7_quashes 35 = .ok (.iload 4, 2) := by decide +kernel
theorem dX7_quashes_37 : decode cX7_quashes 37 = .ok (.aload_n 0, 1) := by decide +kernel
theorem dX7_quashes_38 : decode cX7_quashes 38 = .ok (.getfield 29, 3) := by decide +kernel
theorem dX7_quashes_41 : decode cX7_quashes 41 = .ok (.iload_n 1, 1) := by decide +kernel
theorem dX7_quashes_42 : decode cX7_quashes 42 = .ok (.iaload, 1) := by decide +kernel
theorem dX7_quashes_43 : decode cX7_quashes 43 = .ok (.iastore, 1) := by decide +kernel
theorem dX7_quashes_44 : decode cX7_quashes 44 = .ok (.aload_n 0, 1) := by decide +kernel
theorem dX7_quashes_45 : decode cX7_quashes 45 = .ok (.getfield 32, 3) := by decide +kernel
theorem dX7_quashes_48 : decode cX7_quashes 48 = .ok (.iload 4, 2) := by decide +kernel
theorem dX7_quashes_50 : decode cX7_quashes 50 = .ok (.iload_n 3, 1) := by decide +kernel
theorem dX7_quashes_51 : decode cX7_quashes 51 = .ok (.iastore, 1) := by decide +kernel
theorem dX7_quashes_52 : decode cX7_quashes 52 = .ok (.iinc 2 1, 3) := by decide +kernel
theorem dX7_quashes_55 : decode cX7_quashes 55 = .ok (.iinc 4 1, 3) := by decide +kernel
theorem dX7_quashes_58 : decode cX7_quashes 58 = .ok (.goto (-46), 3) := by decide +kernel
theorem dX7_quashes_61 : decode cX7_quashes 61 = .ok (.aload_n 0, 1) := by decide +kernel
theorem dX7_quashes_62 : decode cX7_quashes 62 = .ok (.getfield 35, 3) := by decide +kernel
theorem dX7_quashes_65 : decode cX7_quashes 65 = .ok (.iload_n 1, 1) := by decide +kernel
theorem dX7_quashes_66 : decode cX7_quashes 66 = .ok (.iconst 1, 1) := by decide +kernel
theorem dX7_quashes_67 : decode cX7_quashes 67 = .ok (.bastore, 1) := by decide +kernel
theorem dX7_quashes_68 : decode cX7_quashes 68 = .ok (.aload_n 0, 1) := by decide +kernel
theorem dX7_quashes_69 : decode cX7_quashes 69 = .ok (.invokevirtual 206, 3) := by decide +kernel
theorem dX7_quashes_72 : decode cX7_quashes 72 = .ok (.iload_n 2, 1) := by decide +kernel
theorem dX7_quashes_73 : decode cX7_quashes 73 = .ok (.ireturn, 1) := by decide +kernel
theorem dX7_quash_0 : decode cX7_quash 0 = .ok (.aload_n 0, 1) := by decide +kernel
theorem dX7_quash_1 : decode cX7_quash 1 = .ok (.aload_n 0, 1) := by decide +kernel
theorem dX7_quash_2 : decode cX7_quash 2 = .ok (.iload_n 1, 1) := by decide +kernel
theorem dX7_quash_3 : decode cX7_quash 3 = .ok (.invokevirtual 216, 3) := by decide +kernel
theorem dX7_quash_6 : decode cX7_quash 6 = .ok (.ifCond .ne 7, 3) := by decide +kernel
theorem dX7_quash_9 : decode cX7_quash 9 = .ok (.iconst 1, 1) := by decide +kernel
theorem dX7_quash_10 : decode cX7_quash 10 = .ok (.goto 16, 3) := by decide +kernel
theorem dX7_quash_13 : decode cX7_quash 13 = .ok (.aload_n 0, 1) := by decide +kernel
theorem dX7_quash_14 : decode cX7_quash 14 = .ok (.iload_n 1, 1) := by decide +kernel
theorem dX7_quash_15 : decode cX7_quash 15 = .ok (.invokevirtual 165, 3) := by decide +kernel
theorem dX7_quash_18 : decode cX7_quash 18 = .ok (.ifCond .eq 7, 3) := by decide +kernel
theorem dX7_quash_21 : decode cX7_quash 21 = .ok (.iconst 0, 1) := by decide +kernel
theorem dX7_quash_22 : decode cX7_quash 22 = .ok (.goto 4, 3) := by decide +kernel
theorem dX7_quash_25 : decode cX7_quash 25 = .ok (.iconst 2, 1) := by decide +kernel
theorem dX7_quash_26 : decode cX7_quash 26 = .ok (.invokevirtual 126, 3) := by decide +kernel
theorem dX7_quash_29 : decode cX7_quash 29 = .ok (.ifCond .eq 5, 3) := by decide +kernel
theorem dX7_quash_32 : decode cX7_quash 32 = .ok (.iconst 0, 1) := by decide +kernel
theorem dX7_quash_33 : decode cX7_quash 33 = .ok (.ireturn, 1) := by decide +kernel
theorem dX7_quash_34 : decode cX7_quash 34 = .ok (.aload_n 0, 1) := by decide +kernel
theorem dX7_quash_35 : decode cX7_quash 35 = .ok (.iload_n 1, 1) := by decide +kernel
theorem dX7_quash_36 : decode cX7_quash 36 = .ok (.invokevirtual 231, 3) := by decide +kernel
theorem dX7_quash_39 : decode cX7_quash 39 = .ok (.istore_n 2, 1) := by decide +kernel
theorem dX7_quash_40 : decode cX7_quash 40 = .ok (.aload_n 0, 1) := by decide +kernel
theorem dX7_quash_41 : decode cX7_quash 41 = .ok (.invokevirtual 225, 3) := by decide +kernel
theorem dX7_quash_44 : decode cX7_quash 44 = .ok (.iload_n 2, 1) := by decide +kernel
theorem dX7_quash_45 : decode cX7_quash 45 = .ok (.ireturn, 1) := by decide +kernel
theorem dX7_awards_0 : decode cX7_awards 0 = .ok (.iconst 0, 1) := by decide +kernel
theorem dX7_awards_1 : decode cX7_awards 1 = .ok (.istore_n 2, 1) := by decide +kernel
theorem dX7_awards_2 : decode cX7_awards 2 = .ok (.iconst 0, 1) := by decide +kernel
theorem dX7_awards_3 : decode cX7_awards 3 = .ok (.istore_n 3, 1) := by decide +kernel
theorem dX7_awards_4 : decode cX7_awards 4 = .ok (.iload_n 3, 1) := by decide +kernel
theorem dX7_awards_5 : decode cX7_awards 5 = .ok (.aload_n 0, 1) := by decide +kernel
theorem dX7_awards_6 : decode cX7_awards 6 = .ok (.getfield 140, 3) := by decide +kernel
theorem dX7_awards_9 : decode cX7_awards 9 = .ok (.if_icmp .ge 40, 3) := by decide +kernel
theorem dX7_awards_12 : decode cX7_awards 12 = .ok (.iload_n 2, 1) := by decide +kernel
theorem dX7_awards_13 : decode cX7_awards 13 = .ok (.aload_n 0, 1) := by decide +kernel
theorem dX7_awards_14 : decode cX7_awards 14 = .ok (.iload_n 3, 1) := by decide +kernel
theorem dX7_awards_15 : decode cX7_awards 15 = .ok (.invokevirtual 165, 3) := by decide +kernel
theorem dX7_awards_18 : decode cX7_awards 18 = .ok (.ifCond .eq 22, 3) := by decide +kernel
theorem dX7_awards_21 : decode cX7_awards 21 = .ok (.aload_n 0, 1) := by decide +kernel
theorem dX7_awards_22 : decode cX7_awards 22 = .ok (.getfield 81, 3) := by decide +kernel
theorem dX7_awards_25 : decode cX7_awards 25 = .ok (.iload_n 3, 1) := by decide +kernel
theorem dX7_awards_26 : decode cX7_awards 26 = .ok (.iaload, 1) := by decide +kernel
theorem dX7_awards_27 : decode cX7_awards 27 = .ok (.aload_n 0, 1) := by decide +kernel
theorem dX7_awards_28 : decode cX7_awards 28 = .ok (.getfield 187, 3) := by decide +kernel
theorem dX7_awards_31 : decode cX7_awards 31 = .ok (.if_icmp .le 9, 3) := by decide +kernel
theorem dX7_awards_34 : decode cX7_awards 34 = .ok (.iconst 1, 1) := by decide +kernel
theorem dX7_awards_35 : decode cX7_awards 35 = .ok (.iload_n 3, 1) := by decide +kernel
theorem dX7_awards_36 : decode cX7_awards 36 = .ok (.ishl, 1) := by decide +kernel
theorem dX7_awards_37 : decode cX7_awards 37 = .ok (.goto 4, 3) := by decide +kernel
theorem dX7_awards_40 : decode cX7_awards 40 = .ok (.iconst 0, 1) := by decide +kernel
theorem dX7_awards_41 : decode cX7_awards 41 = .ok (.ior, 1) := by decide +kernel
theorem dX7_awards_42 : decode cX7_awards 42 = .ok (.istore_n 2, 1) := by decide +kernel
theorem dX7_awards_43 : decode cX7_awards 43 = .ok (.iinc 3 1, 3) := by decide +kernel
theorem dX7_awards_46 : decode cX7_awards 46 = .ok (.goto (-42), 3) := by decide +kernel
theorem dX7_awards_49 : decode cX7_awards 49 = .ok (.aload_n 0, 1) := by decide +kernel
theorem dX7_awards_50 : decode cX7_awards 50 = .ok (.getfield 48, 3) := by decide +kernel
theorem dX7_awards_53 : decode cX7_awards 53 = .ok (.aload_n 0, 1) := by decide +kernel
theorem dX7_awards_54 : decode cX7_awards 54 = .ok (.getfield 153, 3) := by decide +kernel
theorem dX7_awards_57 : decode cX7_awards 57 = .ok (.iload_n 1, 1) := by decide +kernel
theorem dX7_awards_58 : decode cX7_awards 58 = .ok (.iastore, 1) := by decide +kernel
theorem dX7_awards_59 : decode cX7_awards 59 = .ok (.aload_n 0, 1) := by decide +kernel
theorem dX7_awards_60 : decode cX7_awards 60 = .ok (.getfield 51, 3) := by decide +kernel
theorem dX7_awards_63 : decode cX7_awards 63 = .ok (.aload_n 0, 1) := by decide +kernel
theorem dX7_awards_64 : decode cX7_awards 64 = .ok (.getfield 153, 3) := by decide +kernel
theorem dX7_awards_67 : decode cX7_awards 67 = .ok (.iload_n 2, 1) := by decide +kernel
theorem dX7_awards_68 : decode cX7_awards 68 = .ok (.iastore, 1) := by decide +kernel
theorem dX7_awards_69 : decode cX7_awards 69 = .ok (.aload_n 0, 1) := by decide +kernel
theorem dX7_awards_70 : decode cX7_awards 70 = .ok (.getfield 54, 3) := by decide +kernel
theorem dX7_awards_73 : decode cX7_awards 73 = .ok (.aload_n 0, 1) := by decide +kernel
theorem dX7_awards_74 : decode cX7_awards 74 = .ok (.getfield 153, 3) := by decide +kernel
theorem dX7_awards_77 : decode cX7_awards 77 = .ok (.aload_n 0, 1) := by decide +kernel
theorem dX7_awards_78 : decode cX7_awards 78 = .ok (.invokevirtual 193, 3) := by decide +kernel
theorem dX7_awards_81 : decode cX7_awards 81 = .ok (.ifCond .eq 12, 3) := by decide +kernel
theorem dX7_awards_84 : decode cX7_awards 84 = .ok (.aload_n 0, 1) := by decide +kernel
theorem dX7_awards_85 : decode cX7_awards 85 = .ok (.getfield 171, 3) := by decide +kernel
theorem dX7_awards_88 : decode cX7_awards 88 = .ok (.iconst 1, 1) := by decide +kernel
theorem dX7_awards_89 : decode cX7_awards 89 = .ok (.isub, 1) := by decide +kernel
theorem dX7_awards_90 : decode cX7_awards 90 = .ok (.goto 4, 3) := by decide +kernel
theorem dX7_awards_93 : decode cX7_awards 93 = .ok (.iconst (-1), 1) := by decide +kernel
theorem dX7_awards_94 : decode cX7_awards 94 = .ok (.iastore, 1) := by decide +kernel
theorem dX7_awards_95 : decode cX7_awards 95 = .ok (.aload_n 0, 1) := by decide +kernel
theorem dX7_awards_96 : decode cX7_awards 96 = .ok (.dup, 1) := by decide +kernel
theorem dX7_awards_97 : decode cX7_awards 97 = .ok (.getfield 153, 3) := by decide +kernel
theorem dX7_awards_100 : decode cX7_awards 100 = .ok (.iconst 1, 1) := by decide +kernel
theorem dX7_awards_101 : decode cX7_awards 101 = .ok (.iadd, 1) := by decide +kernel
theorem dX7_awards_102 : decode cX7_awards 102 = .ok (.putfield 153, 3) := by decide +kernel
theorem dX7_awards_105 : decode cX7_awards 105 = .ok (.aload_n 0, 1) := by decide +kernel
theorem dX7_awards_106 : decode cX7_awards 106 = .ok (.invokevirtual 206, 3) := by decide +kernel
theorem dX7_awards_109 : decode cX7_awards 109 = .ok (.return_, 1) := by decide +kernel
theorem dX7_award_0 : decode cX7_award 0 = .ok (.aload_n 0, 1) := by decide +kernel
theorem dX7_award_1 : decode cX7_award 1 = .ok (.iload_n 1, 1) := by decide +kernel
theorem dX7_award_2 : decode cX7_award 2 = .ok (.iconst 1, 1) := by decide +kernel
theorem dX7_award_3 : decode cX7_award 3 = .ok (.bipush 42, 2) := by decide +kernel
theorem dX7_award_5 : decode cX7_award 5 = .ok (.invokestatic 122, 3) := by decide +kernel
theorem dX7_award_8 : decode cX7_award 8 = .ok (.ifCond .ne 7, 3) := by decide +kernel
theorem dX7_award_11 : decode cX7_award 11 = .ok (.iconst 1, 1) := by decide +kernel
theorem dX7_award_12 : decode cX7_award 12 = .ok (.goto 25, 3) := by decide +kernel
theorem dX7_award_15 : decode cX7_award 15 = .ok (.aload_n 0, 1) := by decide +kernel
theorem dX7_award_16 : decode cX7_award 16 = .ok (.invokevirtual 234, 3) := by decide +kernel
theorem dX7_award_19 : decode cX7_award 19 = .ok (.iconst 2, 1) := by decide +kernel
theorem dX7_award_20 : decode cX7_award 20 = .ok (.if_icmp .ne 12, 3) := by decide +kernel
theorem dX7_award_23 : decode cX7_award 23 = .ok (.aload_n 0, 1) := by decide +kernel
theorem dX7_award_24 : decode cX7_award 24 = .ok (.getfield 153, 3) := by decide +kernel
theorem dX7_award_27 : decode cX7_award 27 = .ok (.bipush 8, 2) := by decide +kernel
theorem dX7_award_29 : decode cX7_award 29 = .ok (.if_icmp .ne 7, 3) := by decide +kernel
theorem dX7_award_32 : decode cX7_award 32 = .ok (.iconst 2, 1) := by decide +kernel
theorem dX7_award_33 : decode cX7_award 33 = .ok (.goto 4, 3) := by decide +kernel
theorem dX7_award_36 : decode cX7_award 36 = .ok (.iconst 0, 1) := by decide +kernel
theorem dX7_award_37 : decode cX7_award 37 = .ok (.invokevirtual 126, 3) := by decide +kernel
theorem dX7_award_40 : decode cX7_award 40 = .ok (.ifCond .eq 5, 3) := by decide +kernel
theorem dX7_award_43 : decode cX7_award 43 = .ok (.iconst 0, 1) := by decide +kernel
theorem dX7_award_44 : decode cX7_award 44 = .ok (.ireturn, 1) := by decide +kernel
theorem dX7_award_45 : decode cX7_award 45 = .ok (.aload_n 0, 1) := by decide +kernel
theorem dX7_award_46 : decode cX7_award 46 = .ok (.iload_n 1, 1) := by decide +kernel
theorem dX7_award_47 : decode cX7_award 47 = .ok (.invokevirtual 237, 3) := by decide +kernel
theorem dX7_award_50 : decode cX7_award 50 = .ok (.aload_n 0, 1) := by decide +kernel
theorem dX7_award_51 : decode cX7_award 51 = .ok (.getfield 153, 3) := by decide +kernel
theorem dX7_award_54 : decode cX7_award 54 = .ok (.iconst 1, 1) := by decide +kernel
theorem dX7_award_55 : decode cX7_award 55 = .ok (.isub, 1) := by decide +kernel
theorem dX7_award_56 : decode cX7_award 56 = .ok (.ireturn, 1) := by decide +kernel
theorem dX7_isAward_0 : decode cX7_isAward 0 = .ok (.iload_n 1, 1) := by decide +kernel
theorem dX7_isAward_1 : decode cX7_isAward 1 = .ok (.iconst 0, 1) := by decide +kernel
theorem dX7_isAward_2 : decode cX7_isAward 2 = .ok (.aload_n 0, 1) := by decide +kernel
theorem dX7_isAward_3 : decode cX7_isAward 3 = .ok (.getfield 153, 3) := by decide +kernel
theorem dX7_isAward_6 : decode cX7_isAward 6 = .ok (.iconst 1, 1) := by decide +kernel
theorem dX7_isAward_7 : decode cX7_isAward 7 = .ok (.isub, 1) := by decide +kernel
theorem dX7_isAward_8 : decode cX7_isAward 8 = .ok (.invokestatic 122, 3) := by decide +kernel
theorem dX7_isAward_11 : decode cX7_isAward 11 = .ok (.ireturn, 1) := by decide +kernel
theorem dX7_giveBack_0 : decode cX7_giveBack 0 = .ok (.aload_n 0, 1) := by decide +kernel
theorem dX7_giveBack_1 : decode cX7_giveBack 1 = .ok (.aload_n 0, 1) := by decide +kernel
theorem dX7_giveBack_2 : decode cX7_giveBack 2 = .ok (.iload_n 1, 1) := by decide +kernel
theorem dX7_giveBack_3 : decode cX7_giveBack 3 = .ok (.invokevirtual 239, 3) := by decide +kernel
theorem dX7_giveBack_6 : decode cX7_giveBack 6 = .ok (.ifCond .ne 7, 3) := by decide +kernel
theorem dX7_giveBack_9 : decode cX7_giveBack 9 = .ok (.iconst 1, 1) := by decide +kernel
theorem dX7_giveBack_10 : decode cX7_giveBack 10 = .ok (.goto 22, 3) := by decide +kernel
theorem dX7_giveBack_13 : decode cX7_giveBack 13 = .ok (.iload_n 2, 1) := by decide +kernel
theorem dX7_giveBack_14 : decode cX7_giveBack 14 = .ok (.iconst 1, 1) := by decide +kernel
theorem dX7_giveBack_15 : decode cX7_giveBack 15 = .ok (.aload_n 0, 1) := by decide +kernel
theorem dX7_giveBack_16 : decode cX7_giveBack 16 = .ok (.getfield 48, 3) := by decide +kernel
theorem dX7_giveBack_19 : decode cX7_giveBack 19 = .ok (.iload_n 1, 1) := by decide +kernel
theorem dX7_giveBack_20 : decode cX7_giveBack 20 = .ok (.iaload, 1) := by decide +kernel
theorem dX7_giveBack_21 : decode cX7_giveBack 21 = .ok (.invokestatic 122, 3) := by decide +kernel
theorem dX7_giveBack_24 : decode cX7_giveBack 24 = .ok (.ifCond .eq 7, 3) := by decide +kernel
theorem dX7_giveBack_27 : decode cX7_giveBack 27 = .ok (.iconst 0, 1) := by decide +kernel
theorem dX7_giveBack_28 : decode cX7_giveBack 28 = .ok (.goto 4, 3) := by decide +kernel
theorem dX7_giveBack_31 : decode cX7_giveBack 31 = .ok (.iconst 2, 1) := by decide +kernel
theorem dX7_giveBack_32 : decode cX7_giveBack 32 = .ok (.invokevirtual 126, 3) := by decide +kernel
theorem dX7_giveBack_35 : decode cX7_giveBack 35 = .ok (.ifCond .eq 5, 3) := by decide +kernel
theorem dX7_giveBack_38 : decode cX7_giveBack 38 = .ok (.iconst 0, 1) := by decide +kernel
theorem dX7_giveBack_39 : decode cX7_giveBack 39 = .ok (.ireturn, 1) := by decide +kernel
theorem dX7_giveBack_40 : decode cX7_giveBack 40 = .ok (.aload_n 0, 1) := by decide +kernel
theorem dX7_giveBack_41 : decode cX7_giveBack 41 = .ok (.getfield 48, 3) := by decide +kernel
theorem dX7_giveBack_44 : decode cX7_giveBack 44 = .ok (.iload_n 1, 1) := by decide +kernel
theorem dX7_giveBack_45 : decode cX7_giveBack 45 = .ok (.dup2, 1) := by decide +kernel
theorem dX7_giveBack_46 : decode cX7_giveBack 46 = .ok (.iaload, 1) := by decide +kernel
theorem dX7_giveBack_47 : decode cX7_giveBack 47 = .ok (.iload_n 2, 1) := by decide +kernel
theorem dX7_giveBack_48 : decode cX7_giveBack 48 = .ok (.isub, 1) := by decide +kernel
theorem dX7_giveBack_49 : decode cX7_giveBack 49 = .ok (.iastore, 1) := by decide +kernel
theorem dX7_giveBack_50 : decode cX7_giveBack 50 = .ok (.aload_n 0, 1) := by decide +kernel
theorem dX7_giveBack_51 : decode cX7_giveBack 51 = .ok (.invokevirtual 206, 3) := by decide +kernel
theorem dX7_giveBack_54 : decode cX7_giveBack 54 = .ok (.aload_n 0, 1) := by decide +kernel
theorem dX7_giveBack_55 : decode cX7_giveBack 55 = .ok (.getfield 48, 3) := by decide +kernel
theorem dX7_giveBack_58 : decode cX7_giveBack 58 = .ok (.iload_n 1, 1) := by decide +kernel
theorem dX7_giveBack_59 : decode cX7_giveBack 59 = .ok (.iaload, 1) := by decide +kernel
theorem dX7_giveBack_60 : decode cX7_giveBack 60 = .ok (.ireturn, 1) := by decide +kernel
theorem dX7_recall_0 : decode cX7_recall 0 = .ok (.aload_n 0, 1) := by decide +kernel
theorem dX7_recall_1 : decode cX7_recall 1 = .ok (.iload_n 1, 1) := by decide +kernel
theorem dX7_recall_2 : decode cX7_recall 2 = .ok (.iconst 0, 1) := by decide +kernel
theorem dX7_recall_3 : decode cX7_recall 3 = .ok (.bipush 28, 2) := by decide +kernel
theorem dX7_recall_5 : decode cX7_recall 5 = .ok (.invokestatic 122, 3) := by decide +kernel
theorem dX7_recall_8 : decode cX7_recall 8 = .ok (.ifCond .ne 7, 3) := by decide +kernel
theorem dX7_recall_11 : decode cX7_recall 11 = .ok (.iconst 1, 1) := by decide +kernel
theorem dX7_recall_12 : decode cX7_recall 12 = .ok (.goto 25, 3) := by decide +kernel
theorem dX7_recall_15 : decode cX7_recall 15 = .ok (.aload_n 0, 1) := by decide +kernel
theorem dX7_recall_16 : decode cX7_recall 16 = .ok (.invokevirtual 234, 3) := by decide +kernel
theorem dX7_recall_19 : decode cX7_recall 19 = .ok (.iconst 1, 1) := by decide +kernel
theorem dX7_recall_20 : decode cX7_recall 20 = .ok (.if_icmp .ne 12, 3) := by decide +kernel
theorem dX7_recall_23 : decode cX7_recall 23 = .ok (.aload_n 0, 1) := by decide +kernel
theorem dX7_recall_24 : decode cX7_recall 24 = .ok (.getfield 171, 3) := by decide +kernel
theorem dX7_recall_27 : decode cX7_recall 27 = .ok (.bipush 6, 2) := by decide +kernel
theorem dX7_recall_29 : decode cX7_recall 29 = .ok (.if_icmp .ne 7, 3) := by decide +kernel
theorem dX7_recall_32 : decode cX7_recall 32 = .ok (.iconst 2, 1) := by decide +kernel
theorem dX7_recall_33 : decode cX7_recall 33 = .ok (.goto 4, 3) := by decide +kernel
theorem dX7_recall_36 : decode cX7_recall 36 = .ok (.iconst 0, 1) := by decide +kernel
theorem dX7_recall_37 : decode cX7_recall 37 = .ok (.invokevirtual 126, 3) := by decide +kernel
theorem dX7_recall_40 : decode cX7_recall 40 = .ok (.ifCond .eq 5, 3) := by decide +kernel
theorem dX7_recall_43 : decode cX7_recall 43 = .ok (.iconst 0, 1) := by decide +kernel
theorem dX7_recall_44 : decode cX7_recall 44 = .ok (.ireturn, 1) := by decide +kernel
theorem dX7_recall_45 : decode cX7_recall 45 = .ok (.aload_n 0, 1) := by decide +kernel
theorem dX7_recall_46 : decode cX7_recall 46 = .ok (.aload_n 0, 1) := by decide +kernel
theorem dX7_recall_47 : decode cX7_recall 47 = .ok (.getfield 187, 3) := by decide +kernel
theorem dX7_recall_50 : decode cX7_recall 50 = .ok (.putfield 180, 3) := by decide +kernel
theorem dX7_recall_53 : decode cX7_recall 53 = .ok (.aload_n 0, 1) := by decide +kernel
theorem dX7_recall_54 : decode cX7_recall 54 = .ok (.iload_n 1, 1) := by decide +kernel
theorem dX7_recall_55 : decode cX7_recall 55 = .ok (.putfield 174, 3) := by decide +kernel
theorem dX7_recall_58 : decode cX7_recall 58 = .ok (.aload_n 0, 1) := by decide +kernel
theorem dX7_recall_59 : decode cX7_recall 59 = .ok (.aload_n 0, 1) := by decide +kernel
theorem dX7_recall_60 : decode cX7_recall 60 = .ok (.invokevirtual 197, 3) := by decide +kernel
theorem dX7_recall_63 : decode cX7_recall 63 = .ok (.putfield 177, 3) := by decide +kernel
theorem dX7_recall_66 : decode cX7_recall 66 = .ok (.aload_n 0, 1) := by decide +kernel
theorem dX7_recall_67 : decode cX7_recall 67 = .ok (.dup, 1) := by decide +kernel
theorem dX7_recall_68 : decode cX7_recall 68 = .ok (.getfield 171, 3) := by decide +kernel
theorem dX7_recall_71 : decode cX7_recall 71 = .ok (.iconst 1, 1) := by decide +kernel
theorem dX7_recall_72 : decode cX7_recall 72 = .ok (.iadd, 1) := by decide +kernel
theorem dX7_recall_73 : decode cX7_recall 73 = .ok (.putfield 171, 3) := by decide +kernel
theorem dX7_recall_76 : decode cX7_recall 76 = .ok (.aload_n 0, 1) := by decide +kernel
theorem dX7_recall_77 : decode cX7_recall 77 = .ok (.invokevirtual 183, 3) := by decide +kernel
theorem dX7_recall_80 : decode cX7_recall 80 = .ok (.ireturn, 1) := by decide +kernel
theorem dX7_termCount_0 : decode cX7_termCount 0 = .ok (.aload_n 0, 1) := by decide +kernel
theorem dX7_termCount_1 : decode cX7_termCount 1 = .ok (.iconst 0, 1) := by decide +kernel
theorem dX7_termCount_2 : decode cX7_termCount 2 = .ok (.putfield 93, 3) := by decide +kernel
theorem dX7_termCount_5 : decode cX7_termCount 5 = .ok (.aload_n 0, 1) := by decide +kernel
theorem dX7_termCount_6 : decode cX7_termCount 6 = .ok (.getfield 140, 3) := by decide +kernel
theorem dX7_termCount_9 : decode cX7_termCount 9 = .ok (.ireturn, 1) := by decide +kernel
theorem dX7_kindOf_0 : decode cX7_kindOf 0 = .ok (.aload_n 0, 1) := by decide +kernel
theorem dX7_kindOf_1 : decode cX7_kindOf 1 = .ok (.aload_n 0, 1) := by decide +kernel
theorem dX7_kindOf_2 : decode cX7_kindOf 2 = .ok (.iload_n 1, 1) := by decide +kernel
theorem dX7_kindOf_3 : decode cX7_kindOf 3 = .ok (.invokevirtual 216, 3) := by decide +kernel
theorem dX7_kindOf_6 : decode cX7_kindOf 6 = .ok (.ifCond .eq 7, 3) := by decide +kernel
theorem dX7_kindOf_9 : decode cX7_kindOf 9 = .ok (.iconst 0, 1) := by decide +kernel
theorem dX7_kindOf_10 : decode cX7_kindOf 10 = .ok (.goto 4, 3) := by decide +kernel
theorem dX7_kindOf_13 : decode cX7_kindOf 13 = .ok (.iconst 1, 1) := by decide +kernel
theorem dX7_kindOf_14 : decode cX7_kindOf 14 = .ok (.invokevirtual 126, 3) := by decide +kernel
theorem dX7_kindOf_17 : decode cX7_kindOf 17 = .ok (.ifCond .eq 7, 3) := by decide +kernel
theorem dX7_kindOf_20 : decode cX7_kindOf 20 = .ok (.iconst 0, 1) := by decide +kernel
theorem dX7_kindOf_21 : decode cX7_kindOf 21 = .ok (.goto 9, 3) := by decide +kernel
theorem dX7_kindOf_24 : decode cX7_kindOf 24 = .ok (.aload_n 0, 1) := by decide +kernel
theorem dX7_kindOf_25 : decode cX7_kindOf 25 = .ok (.getfield 17, 3) := by decide +kernel
theorem dX7_kindOf_28 : decode cX7_kindOf 28 = .ok (.iload_n 1, 1) := by decide +kernel
theorem dX7_kindOf_29 : decode cX7_kindOf 29 = .ok (.iaload, 1) := by decide +kernel
theorem dX7_kindOf_30 : decode cX7_kindOf 30 = .ok (.ireturn, 1) := by decide +kernel
theorem dX7_isQuashed_0 : decode cX7_isQuashed 0 = .ok (.aload_n 0, 1) := by decide +kernel
theorem dX7_isQuashed_1 : decode cX7_isQuashed 1 = .ok (.aload_n 0, 1) := by decide +kernel
theorem dX7_isQuashed_2 : decode cX7_isQuashed 2 = .ok (.iload_n 1, 1) := by decide +kernel
theorem dX7_isQuashed_3 : decode cX7_isQuashed 3 = .ok (.invokevirtual 216, 3) := by decide +kernel
theorem dX7_isQuashed_6 : decode cX7_isQuashed 6 = .ok (.ifCond .eq 7, 3) := by decide +kernel
theorem dX7_isQuashed_9 : decode cX7_isQuashed 9 = .ok (.iconst 0, 1) := by decide +kernel
theorem dX7_isQuashed_10 : decode cX7_isQuashed 10 = .ok (.goto 4, 3) := by decide +kernel
theorem dX7_isQuashed_13 : decode cX7_isQuashed 13 = .ok (.iconst 1, 1) := by decide +kernel
theorem dX7_isQuashed_14 : decode cX7_isQuashed 14 = .ok (.invokevirtual 126, 3) := by decide +kernel
theorem dX7_isQuashed_17 : decode cX7_isQuashed 17 = .ok (.ifCond .ne 16, 3) := by decide +kernel
theorem dX7_isQuashed_20 : decode cX7_isQuashed 20 = .ok (.aload_n 0, 1) := by decide +kernel
theorem dX7_isQuashed_21 : decode cX7_isQuashed 21 = .ok (.getfield 35, 3) := by decide +kernel
theorem dX7_isQuashed_24 : decode cX7_isQuashed 24 = .ok (.iload_n 1, 1) := by decide +kernel
theorem dX7_isQuashed_25 : decode cX7_isQuashed 25 = .ok (.baload, 1) := by decide +kernel
theorem dX7_isQuashed_26 : decode cX7_isQuashed 26 = .ok (.ifCond .eq 7, 3) := by decide +kernel
theorem dX7_isQuashed_29 : decode cX7_isQuashed 29 = .ok (.iconst 1, 1) := by decide +kernel
theorem dX7_isQuashed_30 : decode cX7_isQuashed 30 = .ok (.goto 4, 3) := by decide +kernel
theorem dX7_isQuashed_33 : decode cX7_isQuashed 33 = .ok (.iconst 0, 1) := by decide +kernel
theorem dX7_isQuashed_34 : decode cX7_isQuashed 34 = .ok (.ireturn, 1) := by decide +kernel
theorem dX7_failsFor_0 : decode cX7_failsFor 0 = .ok (.aload_n 0, 1) := by decide +kernel
theorem dX7_failsFor_1 : decode cX7_failsFor 1 = .ok (.aload_n 0, 1) := by decide +kernel
theorem dX7_failsFor_2 : decode cX7_failsFor 2 = .ok (.iload_n 1, 1) := by decide +kernel
theorem dX7_failsFor_3 : decode cX7_failsFor 3 = .ok (.invokevirtual 216, 3) := by decide +kernel
theorem dX7_failsFor_6 : decode cX7_failsFor 6 = .ok (.ifCond .ne 7, 3) := by decide +kernel
theorem dX7_failsFor_9 : decode cX7_failsFor 9 = .ok (.iconst 1, 1) := by decide +kernel
theorem dX7_failsFor_10 : decode cX7_failsFor 10 = .ok (.goto 16, 3) := by decide +kernel
theorem dX7_failsFor_13 : decode cX7_failsFor 13 = .ok (.aload_n 0, 1) := by decide +kernel
theorem dX7_failsFor_14 : decode cX7_failsFor 14 = .ok (.iload_n 1, 1) := by decide +kernel
theorem dX7_failsFor_15 : decode cX7_failsFor 15 = .ok (.invokevirtual 165, 3) := by decide +kernel
theorem dX7_failsFor_18 : decode cX7_failsFor 18 = .ok (.ifCond .eq 7, 3) := by decide +kernel
theorem dX7_failsFor_21 : decode cX7_failsFor 21 = .ok (.iconst 0, 1) := by decide +kernel
theorem dX7_failsFor_22 : decode cX7_failsFor 22 = .ok (.goto 4, 3) := by decide +kernel
theorem dX7_failsFor_25 : decode cX7_failsFor 25 = .ok (.iconst 2, 1) := by decide +kernel
theorem dX7_failsFor_26 : decode cX7_failsFor 26 = .ok (.invokevirtual 126, 3) := by decide +kernel
theorem dX7_failsFor_29 : decode cX7_failsFor 29 = .ok (.ireturn, 1) := by decide +kernel
theorem dX7_parentOf_0 : decode cX7_parentOf 0 = .ok (.aload_n 0, 1) := by decide +kernel
theorem dX7_parentOf_1 : decode cX7_parentOf 1 = .ok (.iload_n 1, 1) := by decide +kernel
theorem dX7_parentOf_2 : decode cX7_parentOf 2 = .ok (.invokevirtual 242, 3) := by decide +kernel
theorem dX7_parentOf_5 : decode cX7_parentOf 5 = .ok (.ifCond .ne 25, 3) := by decide +kernel
theorem dX7_parentOf_8 : decode cX7_parentOf 8 = .ok (.aload_n 0, 1) := by decide +kernel
theorem dX7_parentOf_9 : decode cX7_parentOf 9 = .ok (.aload_n 0, 1) := by decide +kernel
theorem dX7_parentOf_10 : decode cX7_parentOf 10 = .ok (.getfield 32, 3) := by decide +kernel
theorem dX7_parentOf_13 : decode cX7_parentOf 13 = .ok (.iload_n 1, 1) := by decide +kernel
theorem dX7_parentOf_14 : decode cX7_parentOf 14 = .ok (.iaload, 1) := by decide +kernel
theorem dX7_parentOf_15 : decode cX7_parentOf 15 = .ok (.iconst (-1), 1) := by decide +kernel
theorem dX7_parentOf_16 : decode cX7_parentOf 16 = .ok (.if_icmp .ne 7, 3) := by decide +kernel
theorem dX7_parentOf_19 : decode cX7_parentOf 19 = .ok (.iconst 3, 1) := by decide +kernel
theorem dX7_parentOf_20 : decode cX7_parentOf 20 = .ok (.goto 4, 3) := by decide +kernel
theorem dX7_parentOf_23 : decode cX7_parentOf 23 = .ok (.iconst 0, 1) := by decide +kernel
theorem dX7_parentOf_24 : decode cX7_parentOf 24 = .ok (.invokevirtual 126, 3) := by decide +kernel
theorem dX7_parentOf_27 : decode cX7_parentOf 27 = .ok (.ifCond .eq 5, 3) := by decide +kernel
theorem dX7_parentOf_30 : decode cX7_parentOf 30 = .ok (.iconst 0, 1) := by decide +kernel
theorem dX7_parentOf_31 : decode cX7_parentOf 31 = .ok (.ireturn, 1) := by decide +kernel
theorem dX7_parentOf_32 : decode cX7_parentOf 32 = .ok (.aload_n 0, 1) := by decide +kernel
theorem dX7_parentOf_33 : decode cX7_parentOf 33 = .ok (.getfield 32, 3) := by decide +kernel
theorem dX7_parentOf_36 : decode cX7_parentOf 36 = .ok (.iload_n 1, 1) := by decide +kernel
theorem dX7_parentOf_37 : decode cX7_parentOf 37 = .ok (.iaload, 1) := by decide +kernel
theorem dX7_parentOf_38 : decode cX7_parentOf 38 = .ok (.ireturn, 1) := by decide +kernel
theorem dX7_chainLength_0 : decode cX7_chainLength 0 = .ok (.aload_n 0, 1) := by decide +kernel
theorem dX7_chainLength_1 : decode cX7_chainLength 1 = .ok (.iload_n 1, 1) := by decide +kernel
theorem dX7_chainLength_2 : decode cX7_chainLength 2 = .ok (.invokevirtual 242, 3) := by decide +kernel
theorem dX7_chainLength_5 : decode cX7_chainLength 5 = .ok (.ifCond .eq 7, 3) := by decide +kernel
theorem dX7_chainLength_8 : decode cX7_chainLength 8 = .ok (.iconst 0, 1) := by decide +kernel
theorem dX7_chainLength_9 : decode cX7_chainLength 9 = .ok (.goto 8, 3) := by decide +kernel
theorem dX7_chainLength_12 : decode cX7_chainLength 12 = .ok (.aload_n 0, 1) := by decide +kernel
theorem dX7_chainLength_13 : decode cX7_chainLength 13 = .ok (.iload_n 1, 1) := by decide +kernel
theorem dX7_chainLength_14 : decode cX7_chainLength 14 = .ok (.invokevirtual 245, 3) := by decide +kernel
theorem dX7_chainLength_17 : decode cX7_chainLength 17 = .ok (.ireturn, 1) := by decide +kernel
theorem dX7_descendants_0 : decode cX7_descendants 0 = .ok (.aload_n 0, 1) := by decide +kernel
theorem dX7_descendants_1 : decode cX7_descendants 1 = .ok (.iload_n 1, 1) := by decide +kernel
theorem dX7_descendants_2 : decode cX7_descendants 2 = .ok (.invokevirtual 242, 3) := by decide +kernel
theorem dX7_descendants_5 : decode cX7_descendants 5 = .ok (.ifCond .eq 5, 3) := by decide +kernel
theorem dX7_descendants_8 : decode cX7_descendants 8 = .ok (.iconst 0, 1) := by decide +kernel
theorem dX7_descendants_9 : decode cX7_descendants 9 = .ok (.ireturn, 1) := by decide +kernel
theorem dX7_descendants_10 : decode cX7_descendants 10 = .ok (.iconst 0, 1) := by decide +kernel
theorem dX7_descendants_11 : decode cX7_descendants 11 = .ok (.istore_n 2, 1) := by decide +kernel
theorem dX7_descendants_12 : decode cX7_descendants 12 = .ok (.iconst 0, 1) := by decide +kernel
theorem dX7_descendants_13 : decode cX7_descendants 13 = .ok (.istore_n 3, 1) := by decide +kernel
theorem dX7_descendants_14 : decode cX7_descendants 14 = .ok (.iload_n 3, 1) := by decide +kernel
theorem dX7_descendants_15 : decode cX7_descendants 15 = .ok (.aload_n 0, 1) := by decide +kernel
theorem dX7_descendants_16 : decode cX7_descendants 16 = .ok (.getfield 140, 3) := by decide +kernel
theorem dX7_descendants_19 : decode cX7_descendants 19 = .ok (.if_icmp .ge 39, 3) := by decide +kernel
theorem dX7_descendants_22 : decode cX7_descendants 22 = .ok (.iload_n 2, 1) := by decide +kernel
theorem dX7_descendants_23 : decode cX7_descendants 23 = .ok (.iload_n 3, 1) := by decide +kernel
theorem dX7_descendants_24 : decode cX7_descendants 24 = .ok (.iload_n 1, 1) := by decide +kernel
theorem dX7_descendants_25 : decode cX7_descendants 25 = .ok (.if_icmp .eq 24, 3) := by decide +kernel
theorem dX7_descendants_28 : decode cX7_descendants 28 = .ok (.aload_n 0, 1) := by decide +kernel
theorem dX7_descendants_29 : decode cX7_descendants 29 = .ok (.iload_n 3, 1) := by decide +kernel
theorem dX7_descendants_30 : decode cX7_descendants 30 = .ok (.invokevirtual 165, 3) := by decide +kernel
theorem dX7_descendants_33 : decode cX7_descendants 33 = .ok (.ifCond .eq 16, 3) := by decide +kernel
theorem dX7_descendants_36 : decode cX7_descendants 36 = .ok (.aload_n 0, 1) := by decide +kernel
theorem dX7_descendants_37 : decode cX7_descendants 37 = .ok (.iload_n 1, 1) := by decide +kernel
theorem dX7_descendants_38 : decode cX7_descendants 38 = .ok (.iload_n 3, 1) := by decide +kernel
theorem dX7_descendants_39 : decode cX7_descendants 39 = .ok (.invokevirtual 146, 3) := by decide +kernel
theorem dX7_descendants_42 : decode cX7_descendants 42 = .ok (.ifCond .eq 7, 3) := by decide +kernel
theorem dX7_descendants_45 : decode cX7_descendants 45 = .ok (.iconst 1, 1) := by decide +kernel
theorem dX7_descendants_46 : decode cX7_descendants 46 = .ok (.goto 4, 3) := by decide +kernel
theorem dX7_descendants_49 : decode cX7_descendants 49 = .ok (.iconst 0, 1) := by decide +kernel
theorem dX7_descendants_50 : decode cX7_descendants 50 = .ok (.iadd, 1) := by decide +kernel
theorem dX7_descendants_51 : decode cX7_descendants 51 = .ok (.istore_n 2, 1) := by decide +kernel
theorem dX7_descendants_52 : decode cX7_descendants 52 = .ok (.iinc 3 1, 3) := by decide +kernel
theorem dX7_descendants_55 : decode cX7_descendants 55 = .ok (.goto (-41), 3) := by decide +kernel
theorem dX7_descendants_58 : decode cX7_descendants 58 = .ok (.iload_n 2, 1) := by decide +kernel
theorem dX7_descendants_59 : decode cX7_descendants 59 = .ok (.ireturn, 1) := by decide +kernel
theorem dX7_start_0 : decode cX7_start 0 = .ok (.aload_n 0, 1) := by decide +kernel
theorem dX7_start_1 : decode cX7_start 1 = .ok (.iload_n 1, 1) := by decide +kernel
theorem dX7_start_2 : decode cX7_start 2 = .ok (.invokevirtual 242, 3) := by decide +kernel
theorem dX7_start_5 : decode cX7_start 5 = .ok (.ifCond .eq 7, 3) := by decide +kernel
theorem dX7_start_8 : decode cX7_start 8 = .ok (.iconst 0, 1) := by decide +kernel
theorem dX7_start_9 : decode cX7_start 9 = .ok (.goto 9, 3) := by decide +kernel
theorem dX7_start_12 : decode cX7_start 12 = .ok (.aload_n 0, 1) := by decide +kernel
theorem dX7_start_13 : decode cX7_start 13 = .ok (.getfield 57, 3) := by decide +kernel
theorem dX7_start_16 : decode cX7_start 16 = .ok (.iload_n 1, 1) := by decide +kernel
theorem dX7_start_17 : decode cX7_start 17 = .ok (.iaload, 1) := by decide +kernel
theorem dX7_start_18 : decode cX7_start 18 = .ok (.ireturn, 1) := by decide +kernel
theorem dX7_length_0 : decode cX7_length 0 = .ok (.aload_n 0, 1) := by decide +kernel
theorem dX7_length_1 : decode cX7_length 1 = .ok (.iload_n 1, 1) := by decide +kernel
theorem dX7_length_2 : decode cX7_length 2 = .ok (.invokevirtual 242, 3) := by decide +kernel
theorem dX7_length_5 : decode cX7_length 5 = .ok (.ifCond .eq 7, 3) := by decide +kernel
theorem dX7_length_8 : decode cX7_length 8 = .ok (.iconst 0, 1) := by decide +kernel
theorem dX7_length_9 : decode cX7_length 9 = .ok (.goto 9, 3) := by decide +kernel
theorem dX7_length_12 : decode cX7_length 12 = .ok (.aload_n 0, 1) := by decide +kernel
theorem dX7_length_13 : decode cX7_length 13 = .ok (.getfield 60, 3) := by decide +kernel
theorem dX7_length_16 : decode cX7_length 16 = .ok (.iload_n 1, 1) := by decide +kernel
theorem dX7_length_17 : decode cX7_length 17 = .ok (.iaload, 1) := by decide +kernel
theorem dX7_length_18 : decode cX7_length 18 = .ok (.ireturn, 1) := by decide +kernel
theorem dX7_totalLength_0 : decode cX7_totalLength 0 = .ok (.aload_n 0, 1) := by decide +kernel
theorem dX7_totalLength_1 : decode cX7_totalLength 1 = .ok (.iload_n 1, 1) := by decide +kernel
theorem dX7_totalLength_2 : decode cX7_totalLength 2 = .ok (.invokevirtual 242, 3) := by decide +kernel
theorem dX7_totalLength_5 : decode cX7_totalLength 5 = .ok (.ifCond .eq 7, 3) := by decide +kernel
theorem dX7_totalLength_8 : decode cX7_totalLength 8 = .ok (.iconst 0, 1) := by decide +kernel
theorem dX7_totalLength_9 : decode cX7_totalLength 9 = .ok (.goto 9, 3) := by decide +kernel
theorem dX7_totalLength_12 : decode cX7_totalLength 12 = .ok (.aload_n 0, 1) := by decide +kernel
theorem dX7_totalLength_13 : decode cX7_totalLength 13 = .ok (.getfield 69, 3) := by decide +kernel
theorem dX7_totalLength_16 : decode cX7_totalLength 16 = .ok (.iload_n 1, 1) := by decide +kernel
theorem dX7_totalLength_17 : decode cX7_totalLength 17 = .ok (.iaload, 1) := by decide +kernel
theorem dX7_totalLength_18 : decode cX7_totalLength 18 = .ok (.ireturn, 1) := by decide +kernel
theorem dX7_custodialPart_0 : decode cX7_custodialPart 0 = .ok (.aload_n 0, 1) := by decide +kernel
theorem dX7_custodialPart_1 : decode cX7_custodialPart 1 = .ok (.iload_n 1, 1) := by decide +kernel
theorem dX7_custodialPart_2 : decode cX7_custodialPart 2 = .ok (.invokevirtual 242, 3) := by decide +kernel
theorem dX7_custodialPart_5 : decode cX7_custodialPart 5 = .ok (.ifCond .eq 7, 3) := by decide +kernel
theorem dX7_custodialPart_8 : decode cX7_custodialPart 8 = .ok (.iconst 0, 1) := by decide +kernel
theorem dX7_custodialPart_9 : decode cX7_custodialPart 9 = .ok (.goto 9, 3) := by decide +kernel
theorem dX7_custodialPart_12 : decode cX7_custodialPart 12 = .ok (.aload_n 0, 1) := by decide +kernel
theorem dX7_custodialPart_13 : decode cX7_custodialPart 13 = .ok (.getfield 72, 3) := by decide +kernel
theorem dX7_custodialPart_16 : decode cX7_custodialPart 16 = .ok (.iload_n 1, 1) := by decide +kernel
theorem dX7_custodialPart_17 : decode cX7_custodialPart 17 = .ok (.iaload, 1) := by decide +kernel
theorem dX7_custodialPart_18 : decode cX7_custodialPart 18 = .ok (.ireturn, 1) := by decide +kernel
theorem dX7_credit_0 : decode cX7_credit 0 = .ok (.aload_n 0, 1) := by decide +kernel
theorem dX7_credit_1 : decode cX7_credit 1 = .ok (.iload_n 1, 1) := by decide +kernel
theorem dX7_credit_2 : decode cX7_credit 2 = .ok (.invokevirtual 242, 3) := by decide +kernel
theorem dX7_credit_5 : decode cX7_credit 5 = .ok (.ifCond .eq 7, 3) := by decide +kernel
theorem dX7_credit_8 : decode cX7_credit 8 = .ok (.iconst 0, 1) := by decide +kernel
theorem dX7_credit_9 : decode cX7_credit 9 = .ok (.goto 9, 3) := by decide +kernel
theorem dX7_credit_12 : decode cX7_credit 12 = .ok (.aload_n 0, 1) := by decide +kernel
theorem dX7_credit_13 : decode cX7_credit 13 = .ok (.getfield 75, 3) := by decide +kernel
theorem dX7_credit_16 : decode cX7_credit 16 = .ok (.iload_n 1, 1) := by decide +kernel
theorem dX7_credit_17 : decode cX7_credit 17 = .ok (.iaload, 1) := by decide +kernel
theorem dX7_credit_18 : decode cX7_credit 18 = .ok (.ireturn, 1) := by decide +kernel
theorem dX7_creditByMerging_0 : decode cX7_creditByMerging 0 = .ok (.aload_n 0, 1) := by decide +kernel
theorem dX7_creditByMerging_1 : decode cX7_creditByMerging 1 = .ok (.iload_n 1, 1) := by decide +kernel
theorem dX7_creditByMerging_2 : decode cX7_creditByMerging 2 = .ok (.invokevirtual 248, 3) := by decide +kernel
theorem dX7_creditByMerging_5 : decode cX7_creditByMerging 5 = .ok (.ireturn, 1) := by decide +kernel
theorem dX7_addedDays_0 : decode cX7_addedDays 0 = .ok (.aload_n 0, 1) := by decide +kernel
theorem dX7_addedDays_1 : decode cX7_addedDays 1 = .ok (.iload_n 1, 1) := by decide +kernel
theorem dX7_addedDays_2 : decode cX7_addedDays 2 = .ok (.invokevirtual 242, 3) := by decide +kernel
theorem dX7_addedDays_5 : decode cX7_addedDays 5 = .ok (.ifCond .eq 7, 3) := by decide +kernel
theorem dX7_addedDays_8 : decode cX7_addedDays 8 = .ok (.iconst 0, 1) := by decide +kernel
theorem dX7_addedDays_9 : decode cX7_addedDays 9 = .ok (.goto 9, 3) := by decide +kernel
theorem dX7_addedDays_12 : decode cX7_addedDays 12 = .ok (.aload_n 0, 1) := by decide +kernel
theorem dX7_addedDays_13 : decode cX7_addedDays 13 = .ok (.getfield 78, 3) := by decide +kernel
theorem dX7_addedDays_16 : decode cX7_addedDays 16 = .ok (.iload_n 1, 1) := by decide +kernel
theorem dX7_addedDays_17 : decode cX7_addedDays 17 = .ok (.iaload, 1) := by decide +kernel
theorem dX7_addedDays_18 : decode cX7_addedDays 18 = .ok (.ireturn, 1) := by decide +kernel
theorem dX7_releaseDay_0 : decode cX7_releaseDay 0 = .ok (.aload_n 0, 1) := by decide +kernel
theorem dX7_releaseDay_1 : decode cX7_releaseDay 1 = .ok (.iload_n 1, 1) := by decide +kernel
theorem dX7_releaseDay_2 : decode cX7_releaseDay 2 = .ok (.invokevirtual 242, 3) := by decide +kernel
theorem dX7_releaseDay_5 : decode cX7_releaseDay 5 = .ok (.ifCond .eq 7, 3) := by decide +kernel
theorem dX7_releaseDay_8 : decode cX7_releaseDay 8 = .ok (.iconst 0, 1) := by decide +kernel
theorem dX7_releaseDay_9 : decode cX7_releaseDay 9 = .ok (.goto 9, 3) := by decide +kernel
theorem dX7_releaseDay_12 : decode cX7_releaseDay 12 = .ok (.aload_n 0, 1) := by decide +kernel
theorem dX7_releaseDay_13 : decode cX7_releaseDay 13 = .ok (.getfield 81, 3) := by decide +kernel
theorem dX7_releaseDay_16 : decode cX7_releaseDay 16 = .ok (.iload_n 1, 1) := by decide +kernel
theorem dX7_releaseDay_17 : decode cX7_releaseDay 17 = .ok (.iaload, 1) := by decide +kernel
theorem dX7_releaseDay_18 : decode cX7_releaseDay 18 = .ok (.ireturn, 1) := by decide +kernel
theorem dX7_releaseDayByServing_0 : decode cX7_releaseDayByServing 0 = .ok (.aload_n 0, 1) := by decide +kernel
theorem dX7_releaseDayByServing_1 : decode cX7_releaseDayByServing 1 = .ok (.iload_n 1, 1) := by decide +kernel
theorem dX7_releaseDayByServing_2 : decode cX7_releaseDayByServing 2 = .ok (.invokevirtual 251, 3) := by decide +kernel
theorem dX7_releaseDayByServing_5 : decode cX7_releaseDayByServing 5 = .ok (.ireturn, 1) := by decide +kernel
theorem dX7_endDay_0 : decode cX7_endDay 0 = .ok (.aload_n 0, 1) := by decide +kernel
theorem dX7_endDay_1 : decode cX7_endDay 1 = .ok (.iload_n 1, 1) := by decide +kernel
theorem dX7_endDay_2 : decode cX7_endDay 2 = .ok (.invokevirtual 242, 3) := by decide +kernel
theorem dX7_endDay_5 : decode cX7_endDay 5 = .ok (.ifCond .eq 7, 3) := by decide +kernel
theorem dX7_endDay_8 : decode cX7_endDay 8 = .ok (.iconst 0, 1) := by decide +kernel
theorem dX7_endDay_9 : decode cX7_endDay 9 = .ok (.goto 9, 3) := by decide +kernel
theorem dX7_endDay_12 : decode cX7_endDay 12 = .ok (.aload_n 0, 1) := by decide +kernel
theorem dX7_endDay_13 : decode cX7_endDay 13 = .ok (.getfield 84, 3) := by decide +kernel
theorem dX7_endDay_16 : decode cX7_endDay 16 = .ok (.iload_n 1, 1) := by decide +kernel
theorem dX7_endDay_17 : decode cX7_endDay 17 = .ok (.iaload, 1) := by decide +kernel
theorem dX7_endDay_18 : decode cX7_endDay 18 = .ok (.ireturn, 1) := by decide +kernel
theorem dX7_status_0 : decode cX7_status 0 = .ok (.aload_n 0, 1) := by decide +kernel
theorem dX7_status_1 : decode cX7_status 1 = .ok (.iconst 0, 1) := by decide +kernel
theorem dX7_status_2 : decode cX7_status 2 = .ok (.putfield 93, 3) := by decide +kernel
theorem dX7_status_5 : decode cX7_status 5 = .ok (.aload_n 0, 1) := by decide +kernel
theorem dX7_status_6 : decode cX7_status 6 = .ok (.invokevirtual 234, 3) := by decide +kernel
theorem dX7_status_9 : decode cX7_status 9 = .ok (.ireturn, 1) := by decide +kernel
theorem dX7_lastRelease_0 : decode cX7_lastRelease 0 = .ok (.aload_n 0, 1) := by decide +kernel
theorem dX7_lastRelease_1 : decode cX7_lastRelease 1 = .ok (.aload_n 0, 1) := by decide +kernel
theorem dX7_lastRelease_2 : decode cX7_lastRelease 2 = .ok (.invokevirtual 254, 3) := by decide +kernel
theorem dX7_lastRelease_5 : decode cX7_lastRelease 5 = .ok (.ifCond .eq 7, 3) := by decide +kernel
theorem dX7_lastRelease_8 : decode cX7_lastRelease 8 = .ok (.iconst 0, 1) := by decide +kernel
theorem dX7_lastRelease_9 : decode cX7_lastRelease 9 = .ok (.goto 4, 3) := by decide +kernel
theorem dX7_lastRelease_12 : decode cX7_lastRelease 12 = .ok (.iconst 1, 1) := by decide +kernel
theorem dX7_lastRelease_13 : decode cX7_lastRelease 13 = .ok (.invokevirtual 126, 3) := by decide +kernel
theorem dX7_lastRelease_16 : decode cX7_lastRelease 16 = .ok (.ifCond .eq 7, 3) := by decide +kernel
theorem dX7_lastRelease_19 : decode cX7_lastRelease 19 = .ok (.iconst 0, 1) := by decide +kernel
theorem dX7_lastRelease_20 : decode cX7_lastRelease 20 = .ok (.goto 7, 3) := by decide +kernel
theorem dX7_lastRelease_23 : decode cX7_lastRelease 23 = .ok (.aload_n 0, 1) := by decide +kernel
theorem dX7_lastRelease_24 : decode cX7_lastRelease 24 = .ok (.invokevirtual 190, 3) := by decide +kernel
theorem dX7_lastRelease_27 : decode cX7_lastRelease 27 = .ok (.ireturn, 1) := by decide +kernel
theorem dX7_lastEnd_0 : decode cX7_lastEnd 0 = .ok (.aload_n 0, 1) := by decide +kernel
theorem dX7_lastEnd_1 : decode cX7_lastEnd 1 = .ok (.aload_n 0, 1) := by decide +kernel
theorem dX7_lastEnd_2 : decode cX7_lastEnd 2 = .ok (.invokevirtual 254, 3) := by decide +kernel
theorem dX7_lastEnd_5 : decode cX7_lastEnd 5 = .ok (.ifCond .eq 7, 3) := by decide +kernel
theorem dX7_lastEnd_8 : decode cX7_lastEnd 8 = .ok (.iconst 0, 1) := by decide +kernel
theorem dX7_lastEnd_9 : decode cX7_lastEnd 9 = .ok (.goto 4, 3) := by decide +kernel
theorem dX7_lastEnd_12 : decode cX7_lastEnd 12 = .ok (.iconst 1, 1) := by decide +kernel
theorem dX7_lastEnd_13 : decode cX7_lastEnd 13 = .ok (.invokevirtual 126, 3) := by decide +kernel
theorem dX7_lastEnd_16 : decode cX7_lastEnd 16 = .ok (.ifCond .eq 7, 3) := by decide +kernel
theorem dX7_lastEnd_19 : decode cX7_lastEnd 19 = .ok (.iconst 0, 1) := by decide +kernel
theorem dX7_lastEnd_20 : decode cX7_lastEnd 20 = .ok (.goto 7, 3) := by decide +kernel
theorem dX7_lastEnd_23 : decode cX7_lastEnd 23 = .ok (.aload_n 0, 1) := by decide +kernel
theorem dX7_lastEnd_24 : decode cX7_lastEnd 24 = .ok (.invokevirtual 197, 3) := by decide +kernel
theorem dX7_lastEnd_27 : decode cX7_lastEnd 27 = .ok (.ireturn, 1) := by decide +kernel
theorem dX7_decidingTerm_0 : decode cX7_decidingTerm 0 = .ok (.aload_n 0, 1) := by decide +kernel
theorem dX7_decidingTerm_1 : decode cX7_decidingTerm 1 = .ok (.aload_n 0, 1) := by decide +kernel
theorem dX7_decidingTerm_2 : decode cX7_decidingTerm 2 = .ok (.invokevirtual 254, 3) := by decide +kernel
theorem dX7_decidingTerm_5 : decode cX7_decidingTerm 5 = .ok (.ifCond .eq 7, 3) := by decide +kernel
theorem dX7_decidingTerm_8 : decode cX7_decidingTerm 8 = .ok (.iconst 0, 1) := by decide +kernel
theorem dX7_decidingTerm_9 : decode cX7_decidingTerm 9 = .ok (.goto 4, 3) := by decide +kernel
theorem dX7_decidingTerm_12 : decode cX7_decidingTerm 12 = .ok (.iconst 1, 1) := by decide +kernel
theorem dX7_decidingTerm_13 : decode cX7_decidingTerm 13 = .ok (.invokevirtual 126, 3) := by decide +kernel
theorem dX7_decidingTerm_16 : decode cX7_decidingTerm 16 = .ok (.ifCond .eq 5, 3) := by decide +kernel
theorem dX7_decidingTerm_19 : decode cX7_decidingTerm 19 = .ok (.iconst 0, 1) := by decide +kernel
theorem dX7_decidingTerm_20 : decode cX7_decidingTerm 20 = .ok (.ireturn, 1) := by decide +kernel
theorem dX7_decidingTerm_21 : decode cX7_decidingTerm 21 = .ok (.iconst 0, 1) := by decide +kernel
theorem dX7_decidingTerm_22 : decode cX7_decidingTerm 22 = .ok (.istore_n 1, 1) := by decide +kernel
theorem dX7_decidingTerm_23 : decode cX7_decidingTerm 23 = .ok (.aload_n 0, 1) := by decide +kernel
theorem dX7_decidingTerm_24 : decode cX7_decidingTerm 24 = .ok (.iload_n 1, 1) := by decide +kernel
theorem dX7_decidingTerm_25 : decode cX7_decidingTerm 25 = .ok (.invokevirtual 165, 3) := by decide +kernel
theorem dX7_decidingTerm_28 : decode cX7_decidingTerm 28 = .ok (.ifCond .eq 16, 3) := by decide +kernel
theorem dX7_decidingTerm_31 : decode cX7_decidingTerm 31 = .ok (.aload_n 0, 1) := by decide +kernel
theorem dX7_decidingTerm_32 : decode cX7_decidingTerm 32 = .ok (.getfield 81, 3) := by decide +kernel
theorem dX7_decidingTerm_35 : decode cX7_decidingTerm 35 = .ok (.iload_n 1, 1) := by decide +kernel
theorem dX7_decidingTerm_36 : decode cX7_decidingTerm 36 = .ok (.iaload, 1) := by decide +kernel
theorem dX7_decidingTerm_37 : decode cX7_decidingTerm 37 = .ok (.aload_n 0, 1) := by decide +kernel
theorem dX7_decidingTerm_38 : decode cX7_decidingTerm 38 = .ok (.invokevirtual 190, 3) := by decide +kernel
theorem dX7_decidingTerm_41 : decode cX7_decidingTerm 41 = .ok (.if_icmp .ge 9, 3) := by decide +kernel
theorem dX7_decidingTerm_44 : decode cX7_decidingTerm 44 = .ok (.iinc 1 1, 3) := by decide +kernel
theorem dX7_decidingTerm_47 : decode cX7_decidingTerm 47 = .ok (.goto (-24), 3) := by decide +kernel
theorem dX7_decidingTerm_50 : decode cX7_decidingTerm 50 = .ok (.iload_n 1, 1) := by decide +kernel
theorem dX7_decidingTerm_51 : decode cX7_decidingTerm 51 = .ok (.ireturn, 1) := by decide +kernel
theorem dX7_isAhead_0 : decode cX7_isAhead 0 = .ok (.aload_n 0, 1) := by decide +kernel
theorem dX7_isAhead_1 : decode cX7_isAhead 1 = .ok (.getfield 81, 3) := by decide +kernel
theorem dX7_isAhead_4 : decode cX7_isAhead 4 = .ok (.iload_n 1, 1) := by decide +kernel
theorem dX7_isAhead_5 : decode cX7_isAhead 5 = .ok (.iaload, 1) := by decide +kernel
theorem dX7_isAhead_6 : decode cX7_isAhead 6 = .ok (.aload_n 0, 1) := by decide +kernel
theorem dX7_isAhead_7 : decode cX7_isAhead 7 = .ok (.getfield 81, 3) := by decide +kernel
theorem dX7_isAhead_10 : decode cX7_isAhead 10 = .ok (.iload_n 2, 1) := by decide +kernel
theorem dX7_isAhead_11 : decode cX7_isAhead 11 = .ok (.iaload, 1) := by decide +kernel
theorem dX7_isAhead_12 : decode cX7_isAhead 12 = .ok (.isub, 1) := by decide +kernel
theorem dX7_isAhead_13 : decode cX7_isAhead 13 = .ok (.istore_n 3, 1) := by decide +kernel
theorem dX7_isAhead_14 : decode cX7_isAhead 14 = .ok (.iload_n 3, 1) := by decide +kernel
theorem dX7_isAhead_15 : decode cX7_isAhead 15 = .ok (.ifCond .ne 19, 3) := by decide +kernel
theorem dX7_isAhead_18 : decode cX7_isAhead 18 = .ok (.aload_n 0, 1) := by decide +kernel
theorem dX7_isAhead_19 : decode cX7_isAhead 19 = .ok (.getfield 84, 3) := by decide +kernel
theorem dX7_isAhead_22 : decode cX7_isAhead 22 = .ok (.iload_n 1, 1) := by decide +kernel
theorem dX7_isAhead_23 : decode cX7_isAhead 23 = .ok (.iaload, 1) := by decide +kernel
theorem dX7_isAhead_24 : decode cX7_isAhead 24 = .ok (.aload_n 0, 1) := by decide +kernel
theorem dX7_isAhead_25 : decode cX7_isAhead 25 = .ok (.getfield 84, 3) := by decide +kernel
theorem dX7_isAhead_28 : decode cX7_isAhead 28 = .ok (.iload_n 2, 1) := by decide +kernel
theorem dX7_isAhead_29 : decode cX7_isAhead 29 = .ok (.iaload, 1) := by decide +kernel
theorem dX7_isAhead_30 : decode cX7_isAhead 30 = .ok (.isub, 1) := by decide +kernel
theorem dX7_isAhead_31 : decode cX7_isAhead 31 = .ok (.goto 4, 3) := by decide +kernel
theorem dX7_isAhead_34 : decode cX7_isAhead 34 = .ok (.iload_n 3, 1) := by decide +kernel
theorem dX7_isAhead_35 : decode cX7_isAhead 35 = .ok (.istore_n 3, 1) := by decide +kernel
theorem dX7_isAhead_36 : decode cX7_isAhead 36 = .ok (.iload_n 3, 1) := by decide +kernel
theorem dX7_isAhead_37 : decode cX7_isAhead 37 = .ok (.ifCond .lt 12, 3) := by decide +kernel
theorem dX7_isAhead_40 : decode cX7_isAhead 40 = .ok (.iload_n 3, 1) := by decide +kernel
theorem dX7_isAhead_41 : decode cX7_isAhead 41 = .ok (.ifCond .ne 12, 3) := by decide +kernel
theorem dX7_isAhead_44 : decode cX7_isAhead 44 = .ok (.iload_n 1, 1) := by decide +kernel
theorem dX7_isAhead_45 : decode cX7_isAhead 45 = .ok (.iload_n 2, 1) := by decide +kernel
theorem dX7_isAhead_46 : decode cX7_isAhead 46 = .ok (.if_icmp .ge 7, 3) := by decide +kernel
theorem dX7_isAhead_49 : decode cX7_isAhead 49 = .ok (.iconst 1, 1) := by decide +kernel
theorem dX7_isAhead_50 : decode cX7_isAhead 50 = .ok (.goto 4, 3) := by decide +kernel
theorem dX7_isAhead_53 : decode cX7_isAhead 53 = .ok (.iconst 0, 1) := by decide +kernel
theorem dX7_isAhead_54 : decode cX7_isAhead 54 = .ok (.ireturn, 1) := by decide +kernel
theorem dX7_rank_0 : decode cX7_rank 0 = .ok (.iconst 0, 1) := by decide +kernel
theorem dX7_rank_1 : decode cX7_rank 1 = .ok (.istore_n 2, 1) := by decide +kernel
theorem dX7_rank_2 : decode cX7_rank 2 = .ok (.iconst 0, 1) := by decide +kernel
theorem dX7_rank_3 : decode cX7_rank 3 = .ok (.istore_n 3, 1) := by decide +kernel
theorem dX7_rank_4 : decode cX7_rank 4 = .ok (.iload_n 3, 1) := by decide +kernel
theorem dX7_rank_5 : decode cX7_rank 5 = .ok (.aload_n 0, 1) := by decide +kernel
theorem dX7_rank_6 : decode cX7_rank 6 = .ok (.getfield 140, 3) := by decide +kernel
theorem dX7_rank_9 : decode cX7_rank 9 = .ok (.if_icmp .ge 34, 3) := by decide +kernel
theorem dX7_rank_12 : decode cX7_rank 12 = .ok (.iload_n 2, 1) := by decide +kernel
theorem dX7_rank_13 : decode cX7_rank 13 = .ok (.aload_n 0, 1) := by decide +kernel
theorem dX7_rank_14 : decode cX7_rank 14 = .ok (.iload_n 3, 1) := by decide +kernel
theorem dX7_rank_15 : decode cX7_rank 15 = .ok (.invokevirtual 165, 3) := by decide +kernel
theorem dX7_rank_18 : decode cX7_rank 18 = .ok (.ifCond .eq 16, 3) := by decide +kernel
theorem dX7_rank_21 : decode cX7_rank 21 = .ok (.aload_n 0, 1) := by decide +kernel
theorem dX7_rank_22 : decode cX7_rank 22 = .ok (.iload_n 3, 1) := by decide +kernel
theorem dX7_rank_23 : decode cX7_rank 23 = .ok (.iload_n 1, 1) := by decide +kernel
theorem dX7_rank_24 : decode cX7_rank 24 = .ok (.invokevirtual 257, 3) := by decide +kernel
theorem dX7_rank_27 : decode cX7_rank 27 = .ok (.ifCond .eq 7, 3) := by decide +kernel
theorem dX7_rank_30 : decode cX7_rank 30 = .ok (.iconst 1, 1) := by decide +kernel
theorem dX7_rank_31 : decode cX7_rank 31 = .ok (.goto 4, 3) := by decide +kernel
theorem dX7_rank_34 : decode cX7_rank 34 = .ok (.iconst 0, 1) := by decide +kernel
theorem dX7_rank_35 : decode cX7_rank 35 = .ok (.iadd, 1) := by decide +kernel
theorem dX7_rank_36 : decode cX7_rank 36 = .ok (.istore_n 2, 1) := by decide +kernel
theorem dX7_rank_37 : decode cX7_rank 37 = .ok (.iinc 3 1, 3) := by decide +kernel
theorem dX7_rank_40 : decode cX7_rank 40 = .ok (.goto (-36), 3) := by decide +kernel
theorem dX7_rank_43 : decode cX7_rank 43 = .ok (.iload_n 2, 1) := by decide +kernel
theorem dX7_rank_44 : decode cX7_rank 44 = .ok (.ireturn, 1) := by decide +kernel
theorem dX7_termByRelease_0 : decode cX7_termByRelease 0 = .ok (.iconst (-1), 1) := by decide +kernel
theorem dX7_termByRelease_1 : decode cX7_termByRelease 1 = .ok (.istore_n 2, 1) := by decide +kernel
theorem dX7_termByRelease_2 : decode cX7_termByRelease 2 = .ok (.iconst 0, 1) := by decide +kernel
theorem dX7_termByRelease_3 : decode cX7_termByRelease 3 = .ok (.istore_n 3, 1) := by decide +kernel
theorem dX7_termByRelease_4 : decode cX7_termByRelease 4 = .ok (.iload_n 3, 1) := by decide +kernel
theorem dX7_termByRelease_5 : decode cX7_termByRelease 5 = .ok (.aload_n 0, 1) := by decide +kernel
theorem dX7_termByRelease_6 : decode cX7_termByRelease 6 = .ok (.getfield 140, 3) := by decide +kernel
theorem dX7_termByRelease_9 : decode cX7_termByRelease 9 = .ok (.if_icmp .ge 36, 3) := by decide +kernel
theorem dX7_termByRelease_12 : decode cX7_termByRelease 12 = .ok (.iload_n 1, 1) := by decide +kernel
theorem dX7_termByRelease_13 : decode cX7_termByRelease 13 = .ok (.ifCond .lt 32, 3) := by decide +kernel
theorem dX7_termByRelease_16 : decode cX7_termByRelease 16 = .ok (.aload_n 0, 1) := by decide +kernel
theorem dX7_termByRelease_17 : decode cX7_termByRelease 17 = .ok (.iload_n 3, 1) := by decide +kernel
theorem dX7_termByRelease_18 : decode cX7_termByRelease 18 = .ok (.invokevirtual 165, 3) := by decide +kernel
theorem dX7_termByRelease_21 : decode cX7_termByRelease 21 = .ok (.ifCond .eq 16, 3) := by decide +kernel
theorem dX7_termByRelease_24 : decode cX7_termByRelease 24 = .ok (.aload_n 0, 1) := by decide +kernel
theorem dX7_termByRelease_25 : decode cX7_termByRelease 25 = .ok (.iload_n 3, 1) := by decide +kernel
theorem dX7_termByRelease_26 : decode cX7_termByRelease 26 = .ok (.invokevirtual 260, 3) := by decide +kernel
theorem dX7_termByRelease_29 : decode cX7_termByRelease 29 = .ok (.iload_n 1, 1) := by decide +kernel
theorem dX7_termByRelease_30 : decode cX7_termByRelease 30 = .ok (.if_icmp .ne 7, 3) := by decide +kernel
theorem dX7_termByRelease_33 : decode cX7_termByRelease 33 = .ok (.iload_n 3, 1) := by decide +kernel
theorem dX7_termByRelease_34 : decode cX7_termByRelease 34 = .ok (.goto 4, 3) := by decide +kernel
theorem dX7_termByRelease_37 : decode cX7_termByRelease 37 = .ok (.iload_n 2, 1) := by decide +kernel
theorem dX7_termByRelease_38 : decode cX7_termByRelease 38 = .ok (.istore_n 2, 1) := by decide +kernel
theorem dX7_termByRelease_39 : decode cX7_termByRelease 39 = .ok (.iinc 3 1, 3) := by decide +kernel
theorem dX7_termByRelease_42 : decode cX7_termByRelease 42 = .ok (.goto (-38), 3) := by decide +kernel
theorem dX7_termByRelease_45 : decode cX7_termByRelease 45 = .ok (.aload_n 0, 1) := by decide +kernel
theorem dX7_termByRelease_46 : decode cX7_termByRelease 46 = .ok (.iload_n 2, 1) := by decide +kernel
theorem dX7_termByRelease_47 : decode cX7_termByRelease 47 = .ok (.iconst (-1), 1) := by decide +kernel
theorem dX7_termByRelease_48 : decode cX7_termByRelease 48 = .ok (.if_icmp .ne 7, 3) := by decide +kernel
theorem dX7_termByRelease_51 : decode cX7_termByRelease 51 = .ok (.iconst 1, 1) := by decide +kernel
theorem dX7_termByRelease_52 : decode cX7_termByRelease 52 = .ok (.goto 4, 3) := by decide +kernel
theorem dX7_termByRelease_55 : decode cX7_termByRelease 55 = .ok (.iconst 0, 1) := by decide +kernel
theorem dX7_termByRelease_56 : decode cX7_termByRelease 56 = .ok (.invokevirtual 126, 3) := by decide +kernel
theorem dX7_termByRelease_59 : decode cX7_termByRelease 59 = .ok (.ifCond .eq 7, 3) := by decide +kernel
theorem dX7_termByRelease_62 : decode cX7_termByRelease 62 = .ok (.iconst 0, 1) := by decide +kernel
theorem dX7_termByRelease_63 : decode cX7_termByRelease 63 = .ok (.goto 4, 3) := by decide +kernel
theorem dX7_termByRelease_66 : decode cX7_termByRelease 66 = .ok (.iload_n 2, 1) := by decide +kernel
theorem dX7_termByRelease_67 : decode cX7_termByRelease 67 = .ok (.ireturn, 1) := by decide +kernel
theorem dX7_daysInCustodyLeft_0 : decode cX7_daysInCustodyLeft 0 = .ok (.aload_n 0, 1) := by decide +kernel
theorem dX7_daysInCustodyLeft_1 : decode cX7_daysInCustodyLeft 1 = .ok (.iconst 0, 1) := by decide +kernel
theorem dX7_daysInCustodyLeft_2 : decode cX7_daysInCustodyLeft 2 = .ok (.putfield 93, 3) := by decide +kernel
theorem dX7_daysInCustodyLeft_5 : decode cX7_daysInCustodyLeft 5 = .ok (.aload_n 0, 1) := by decide +kernel
theorem dX7_daysInCustodyLeft_6 : decode cX7_daysInCustodyLeft 6 = .ok (.invokevirtual 190, 3) := by decide +kernel
theorem dX7_daysInCustodyLeft_9 : decode cX7_daysInCustodyLeft 9 = .ok (.istore_n 1, 1) := by decide +kernel
theorem dX7_daysInCustodyLeft_10 : decode cX7_daysInCustodyLeft 10 = .ok (.aload_n 0, 1) := by decide +kernel
theorem dX7_daysInCustodyLeft_11 : decode cX7_daysInCustodyLeft 11 = .ok (.invokevirtual 183, 3) := by decide +kernel
theorem dX7_daysInCustodyLeft_14 : decode cX7_daysInCustodyLeft 14 = .ok (.istore_n 2, 1) := by decide +kernel
theorem dX7_daysInCustodyLeft_15 : decode cX7_daysInCustodyLeft 15 = .ok (.iload_n 1, 1) := by decide +kernel
theorem dX7_daysInCustodyLeft_16 : decode cX7_daysInCustodyLeft 16 = .ok (.iload_n 2, 1) := by decide +kernel
theorem dX7_daysInCustodyLeft_17 : decode cX7_daysInCustodyLeft 17 = .ok (.if_icmp .le 7, 3) := by decide +kernel
theorem dX7_daysInCustodyLeft_20 : decode cX7_daysInCustodyLeft 20 = .ok (.iload_n 1, 1) := by decide +kernel
theorem dX7_daysInCustodyLeft_21 : decode cX7_daysInCustodyLeft 21 = .ok (.goto 4, 3) := by decide +kernel
theorem dX7_daysInCustodyLeft_24 : decode cX7_daysInCustodyLeft 24 = .ok (.iload_n 2, 1) := by decide +kernel
theorem dX7_daysInCustodyLeft_25 : decode cX7_daysInCustodyLeft 25 = .ok (.istore_n 3, 1) := by decide +kernel
theorem dX7_daysInCustodyLeft_26 : decode cX7_daysInCustodyLeft 26 = .ok (.iload_n 3, 1) := by decide +kernel
theorem dX7_daysInCustodyLeft_27 : decode cX7_daysInCustodyLeft 27 = .ok (.aload_n 0, 1) := by decide +kernel
theorem dX7_daysInCustodyLeft_28 : decode cX7_daysInCustodyLeft 28 = .ok (.getfield 187, 3) := by decide +kernel
theorem dX7_daysInCustodyLeft_31 : decode cX7_daysInCustodyLeft 31 = .ok (.if_icmp .le 12, 3) := by decide +kernel
theorem dX7_daysInCustodyLeft_34 : decode cX7_daysInCustodyLeft 34 = .ok (.iload_n 3, 1) := by decide +kernel
theorem dX7_daysInCustodyLeft_35 : decode cX7_daysInCustodyLeft 35 = .ok (.aload_n 0, 1) := by decide +kernel
theorem dX7_daysInCustodyLeft_36 : decode cX7_daysInCustodyLeft 36 = .ok (.getfield 187, 3) := by decide +kernel
theorem dX7_daysInCustodyLeft_39 : decode cX7_daysInCustodyLeft 39 = .ok (.isub, 1) := by decide +kernel
theorem dX7_daysInCustodyLeft_40 : decode cX7_daysInCustodyLeft 40 = .ok (.goto 4, 3) := by decide +kernel
theorem dX7_daysInCustodyLeft_43 : decode cX7_daysInCustodyLeft 43 = .ok (.iconst 0, 1) := by decide +kernel
theorem dX7_daysInCustodyLeft_44 : decode cX7_daysInCustodyLeft 44 = .ok (.ireturn, 1) := by decide +kernel
theorem dX7_recallCount_0 : decode cX7_recallCount 0 = .ok (.aload_n 0, 1) := by decide +kernel
theorem dX7_recallCount_1 : decode cX7_recallCount 1 = .ok (.iconst 0, 1) := by decide +kernel
theorem dX7_recallCount_2 : decode cX7_recallCount 2 = .ok (.putfield 93, 3) := by decide +kernel
theorem dX7_recallCount_5 : decode cX7_recallCount 5 = .ok (.aload_n 0, 1) := by decide +kernel
theorem dX7_recallCount_6 : decode cX7_recallCount 6 = .ok (.getfield 171, 3) := by decide +kernel
theorem dX7_recallCount_9 : decode cX7_recallCount 9 = .ok (.ireturn, 1) := by decide +kernel
theorem dX7_recallEnd_0 : decode cX7_recallEnd 0 = .ok (.aload_n 0, 1) := by decide +kernel
theorem dX7_recallEnd_1 : decode cX7_recallEnd 1 = .ok (.aload_n 0, 1) := by decide +kernel
theorem dX7_recallEnd_2 : decode cX7_recallEnd 2 = .ok (.invokevirtual 193, 3) := by decide +kernel
theorem dX7_recallEnd_5 : decode cX7_recallEnd 5 = .ok (.ifCond .eq 7, 3) := by decide +kernel
theorem dX7_recallEnd_8 : decode cX7_recallEnd 8 = .ok (.iconst 0, 1) := by decide +kernel
theorem dX7_recallEnd_9 : decode cX7_recallEnd 9 = .ok (.goto 4, 3) := by decide +kernel
theorem dX7_recallEnd_12 : decode cX7_recallEnd 12 = .ok (.iconst 1, 1) := by decide +kernel
theorem dX7_recallEnd_13 : decode cX7_recallEnd 13 = .ok (.invokevirtual 126, 3) := by decide +kernel
theorem dX7_recallEnd_16 : decode cX7_recallEnd 16 = .ok (.ifCond .eq 7, 3) := by decide +kernel
theorem dX7_recallEnd_19 : decode cX7_recallEnd 19 = .ok (.iconst 0, 1) := by decide +kernel
theorem dX7_recallEnd_20 : decode cX7_recallEnd 20 = .ok (.goto 7, 3) := by decide +kernel
theorem dX7_recallEnd_23 : decode cX7_recallEnd 23 = .ok (.aload_n 0, 1) := by decide +kernel
theorem dX7_recallEnd_24 : decode cX7_recallEnd 24 = .ok (.invokevirtual 183, 3) := by decide +kernel
theorem dX7_recallEnd_27 : decode cX7_recallEnd 27 = .ok (.ireturn, 1) := by decide +kernel
theorem dX7_awardDays_0 : decode cX7_awardDays 0 = .ok (.aload_n 0, 1) := by decide +kernel
theorem dX7_awardDays_1 : decode cX7_awardDays 1 = .ok (.aload_n 0, 1) := by decide +kernel
theorem dX7_awardDays_2 : decode cX7_awardDays 2 = .ok (.iload_n 1, 1) := by decide +kernel
theorem dX7_awardDays_3 : decode cX7_awardDays 3 = .ok (.invokevirtual 239, 3) := by decide +kernel
theorem dX7_awardDays_6 : decode cX7_awardDays 6 = .ok (.ifCond .eq 7, 3) := by decide +kernel
theorem dX7_awardDays_9 : decode cX7_awardDays 9 = .ok (.iconst 0, 1) := by decide +kernel
theorem dX7_awardDays_10 : decode cX7_awardDays 10 = .ok (.goto 4, 3) := by decide +kernel
theorem dX7_awardDays_13 : decode cX7_awardDays 13 = .ok (.iconst 1, 1) := by decide +kernel
theorem dX7_awardDays_14 : decode cX7_awardDays 14 = .ok (.invokevirtual 126, 3) := by decide +kernel
theorem dX7_awardDays_17 : decode cX7_awardDays 17 = .ok (.ifCond .eq 7, 3) := by decide +kernel
theorem dX7_awardDays_20 : decode cX7_awardDays 20 = .ok (.iconst 0, 1) := by decide +kernel
theorem dX7_awardDays_21 : decode cX7_awardDays 21 = .ok (.goto 9, 3) := by decide +kernel
theorem dX7_awardDays_24 : decode cX7_awardDays 24 = .ok (.aload_n 0, 1) := by decide +kernel
theorem dX7_awardDays_25 : decode cX7_awardDays 25 = .ok (.getfield 48, 3) := by decide +kernel
theorem dX7_awardDays_28 : decode cX7_awardDays 28 = .ok (.iload_n 1, 1) := by decide +kernel
theorem dX7_awardDays_29 : decode cX7_awardDays 29 = .ok (.iaload, 1) := by decide +kernel
theorem dX7_awardDays_30 : decode cX7_awardDays 30 = .ok (.ireturn, 1) := by decide +kernel
theorem dX7_concerns_0 : decode cX7_concerns 0 = .ok (.aload_n 0, 1) := by decide +kernel
theorem dX7_concerns_1 : decode cX7_concerns 1 = .ok (.aload_n 0, 1) := by decide +kernel
theorem dX7_concerns_2 : decode cX7_concerns 2 = .ok (.iload_n 1, 1) := by decide +kernel
theorem dX7_concerns_3 : decode cX7_concerns 3 = .ok (.invokevirtual 239, 3) := by decide +kernel
theorem dX7_concerns_6 : decode cX7_concerns 6 = .ok (.ifCond .eq 15, 3) := by decide +kernel
theorem dX7_concerns_9 : decode cX7_concerns 9 = .ok (.aload_n 0, 1) := by decide +kernel
theorem dX7_concerns_10 : decode cX7_concerns 10 = .ok (.iload_n 2, 1) := by decide +kernel
theorem dX7_concerns_11 : decode cX7_concerns 11 = .ok (.invokevirtual 216, 3) := by decide +kernel
theorem dX7_concerns_14 : decode cX7_concerns 14 = .ok (.ifCond .eq 7, 3) := by decide +kernel
theorem dX7_concerns_17 : decode cX7_concerns 17 = .ok (.iconst 0, 1) := by decide +kernel
theorem dX7_concerns_18 : decode cX7_concerns 18 = .ok (.goto 4, 3) := by decide +kernel
theorem dX7_concerns_21 : decode cX7_concerns 21 = .ok (.iconst 1, 1) := by decide +kernel
theorem dX7_concerns_22 : decode cX7_concerns 22 = .ok (.invokevirtual 126, 3) := by decide +kernel
theorem dX7_concerns_25 : decode cX7_concerns 25 = .ok (.ifCond .ne 21, 3) := by decide +kernel
theorem dX7_concerns_28 : decode cX7_concerns 28 = .ok (.aload_n 0, 1) := by decide +kernel
theorem dX7_concerns_29 : decode cX7_concerns 29 = .ok (.getfield 51, 3) := by decide +kernel
theorem dX7_concerns_32 : decode cX7_concerns 32 = .ok (.iload_n 1, 1) := by decide +kernel
theorem dX7_concerns_33 : decode cX7_concerns 33 = .ok (.iaload, 1) := by decide +kernel
theorem dX7_concerns_34 : decode cX7_concerns 34 = .ok (.iload_n 2, 1) := by decide +kernel
theorem dX7_concerns_35 : decode cX7_concerns 35 = .ok (.ishr, 1) := by decide +kernel
theorem dX7_concerns_36 : decode cX7_concerns 36 = .ok (.iconst 1, 1) := by decide +kernel
theorem dX7_concerns_37 : decode cX7_concerns 37 = .ok (.iand, 1) := by decide +kernel
theorem dX7_concerns_38 : decode cX7_concerns 38 = .ok (.iconst 1, 1) := by decide +kernel
theorem dX7_concerns_39 : decode cX7_concerns 39 = .ok (.if_icmp .ne 7, 3) := by decide +kernel
theorem dX7_concerns_42 : decode cX7_concerns 42 = .ok (.iconst 1, 1) := by decide +kernel
theorem dX7_concerns_43 : decode cX7_concerns 43 = .ok (.goto 4, 3) := by decide +kernel
theorem dX7_concerns_46 : decode cX7_concerns 46 = .ok (.iconst 0, 1) := by decide +kernel
theorem dX7_concerns_47 : decode cX7_concerns 47 = .ok (.ireturn, 1) := by decide +kernel
theorem dX7_lastReleaseWithAward_0 : decode cX7_lastReleaseWithAward 0 = .ok (.aload_n 0, 1) := by decide +kernel
theorem dX7_lastReleaseWithAward_1 : decode cX7_lastReleaseWithAward 1 = .ok (.iload_n 1, 1) := by decide +kernel
theorem dX7_lastReleaseWithAward_2 : decode cX7_lastReleaseWithAward 2 = .ok (.iconst 1, 1) := by decide +kernel
theorem dX7_lastReleaseWithAward_3 : decode cX7_lastReleaseWithAward 3 = .ok (.bipush 42, 2) := by decide +kernel
theorem dX7_lastReleaseWithAward_5 : decode cX7_lastReleaseWithAward 5 = .ok (.invokestatic 122, 3) := by decide +kernel
theorem dX7_lastReleaseWithAward_8 : decode cX7_lastReleaseWithAward 8 = .ok (.ifCond .ne 7, 3) := by decide +kernel
theorem dX7_lastReleaseWithAward_11 : decode cX7_lastReleaseWithAward 11 = .ok (.iconst 1, 1) := by decide +kernel
theorem dX7_lastReleaseWithAward_12 : decode cX7_lastReleaseWithAward 12 = .ok (.goto 16, 3) := by decide +kernel
theorem dX7_lastReleaseWithAward_15 : decode cX7_lastReleaseWithAward 15 = .ok (.aload_n 0, 1) := by decide +kernel
theorem dX7_lastReleaseWithAward_16 : decode cX7_lastReleaseWithAward 16 = .ok (.invokevirtual 234, 3) := by decide +kernel
theorem dX7_lastReleaseWithAward_19 : decode cX7_lastReleaseWithAward 19 = .ok (.iconst 2, 1) := by decide +kernel
theorem dX7_lastReleaseWithAward_20 : decode cX7_lastReleaseWithAward 20 = .ok (.if_icmp .ne 7, 3) := by decide +kernel
theorem dX7_lastReleaseWithAward_23 : decode cX7_lastReleaseWithAward 23 = .ok (.iconst 0, 1) := by decide +kernel
theorem dX7_lastReleaseWithAward_24 : decode cX7_lastReleaseWithAward 24 = .ok (.goto 4, 3) := by decide +kernel
theorem dX7_lastReleaseWithAward_27 : decode cX7_lastReleaseWithAward 27 = .ok (.iconst 2, 1) := by decide +kernel
theorem dX7_lastReleaseWithAward_28 : decode cX7_lastReleaseWithAward 28 = .ok (.invokevirtual 126, 3) := by decide +kernel
theorem dX7_lastReleaseWithAward_31 : decode cX7_lastReleaseWithAward 31 = .ok (.ifCond .eq 5, 3) := by decide +kernel
theorem dX7_lastReleaseWithAward_34 : decode cX7_lastReleaseWithAward 34 = .ok (.iconst 0, 1) := by decide +kernel
theorem dX7_lastReleaseWithAward_35 : decode cX7_lastReleaseWithAward 35 = .ok (.ireturn, 1) := by decide +kernel
theorem dX7_lastReleaseWithAward_36 : decode cX7_lastReleaseWithAward 36 = .ok (.iconst 0, 1) := by decide +kernel
theorem dX7_lastReleaseWithAward_37 : decode cX7_lastReleaseWithAward 37 = .ok (.istore_n 2, 1) := by decide +kernel
theorem dX7_lastReleaseWithAward_38 : decode cX7_lastReleaseWithAward 38 = .ok (.iconst 0, 1) := by decide +kernel
theorem dX7_lastReleaseWithAward_39 : decode cX7_lastReleaseWithAward 39 = .ok (.istore_n 3, 1) := by decide +kernel
theorem dX7_lastReleaseWithAward_40 : decode cX7_lastReleaseWithAward 40 = .ok (.iload_n 3, 1) := by decide +kernel
theorem dX7_lastReleaseWithAward_41 : decode cX7_lastReleaseWithAward 41 = .ok (.aload_n 0, 1) := by decide +kernel
theorem dX7_lastReleaseWithAward_42 : decode cX7_lastReleaseWithAward 42 = .ok (.getfield 140, 3) := by decide +kernel
theorem dX7_lastReleaseWithAward_45 : decode cX7_lastReleaseWithAward 45 = .ok (.if_icmp .ge 40, 3) := by decide +kernel
theorem dX7_lastReleaseWithAward_48 : decode cX7_lastReleaseWithAward 48 = .ok (.iload_n 2, 1) := by decide +kernel
theorem dX7_lastReleaseWithAward_49 : decode cX7_lastReleaseWithAward 49 = .ok (.aload_n 0, 1) := by decide +kernel
theorem dX7_lastReleaseWithAward_50 : decode cX7_lastReleaseWithAward 50 = .ok (.iload_n 3, 1) := by decide +kernel
theorem dX7_lastReleaseWithAward_51 : decode cX7_lastReleaseWithAward 51 = .ok (.invokevirtual 165, 3) := by decide +kernel
theorem dX7_lastReleaseWithAward_54 : decode cX7_lastReleaseWithAward 54 = .ok (.ifCond .eq 22, 3) := by decide +kernel
theorem dX7_lastReleaseWithAward_57 : decode cX7_lastReleaseWithAward 57 = .ok (.aload_n 0, 1) := by decide +kernel
theorem dX7_lastReleaseWithAward_58 : decode cX7_lastReleaseWithAward 58 = .ok (.getfield 81, 3) := by decide +kernel
theorem dX7_lastReleaseWithAward_61 : decode cX7_lastReleaseWithAward 61 = .ok (.iload_n 3, 1) := by decide +kernel
theorem dX7_lastReleaseWithAward_62 : decode cX7_lastReleaseWithAward 62 = .ok (.iaload, 1) := by decide +kernel
theorem dX7_lastReleaseWithAward_63 : decode cX7_lastReleaseWithAward 63 = .ok (.aload_n 0, 1) := by decide +kernel
theorem dX7_lastReleaseWithAward_64 : decode cX7_lastReleaseWithAward 64 = .ok (.getfield 187, 3) := by decide +kernel
theorem dX7_lastReleaseWithAward_67 : decode cX7_lastReleaseWithAward 67 = .ok (.if_icmp .le 9, 3) := by decide +kernel
theorem dX7_lastReleaseWithAward_70 : decode cX7_lastReleaseWithAward 70 = .ok (.iconst 1, 1) := by decide +kernel
theorem dX7_lastReleaseWithAward_71 : decode cX7_lastReleaseWithAward 71 = .ok (.iload_n 3, 1) := by decide +kernel
theorem dX7_lastReleaseWithAward_72 : decode cX7_lastReleaseWithAward 72 = .ok (.ishl, 1) := by decide +kernel
theorem dX7_lastReleaseWithAward_73 : decode cX7_lastReleaseWithAward 73 = .ok (.goto 4, 3) := by decide +kernel
theorem dX7_lastReleaseWithAward_76 : decode cX7_lastReleaseWithAward 76 = .ok (.iconst 0, 1) := by decide +kernel
theorem dX7_lastReleaseWithAward_77 : decode cX7_lastReleaseWithAward 77 = .ok (.ior, 1) := by decide +kernel
theorem dX7_lastReleaseWithAward_78 : decode cX7_lastReleaseWithAward 78 = .ok (.istore_n 2, 1) := by decide +kernel
theorem dX7_lastReleaseWithAward_79 : decode cX7_lastReleaseWithAward 79 = .ok (.iinc 3 1, 3) := by decide +kernel
theorem dX7_lastReleaseWithAward_82 : decode cX7_lastReleaseWithAward 82 = .ok (.goto (-42), 3) := by decide +kernel
theorem dX7_lastReleaseWithAward_85 : decode cX7_lastReleaseWithAward 85 = .ok (.iconst 0, 1) := by decide +kernel
theorem dX7_lastReleaseWithAward_86 : decode cX7_lastReleaseWithAward 86 = .ok (.istore_n 3, 1) := by decide +kernel
theorem dX7_lastReleaseWithAward_87 : decode cX7_lastReleaseWithAward 87 = .ok (.iconst 0, 1) := by decide +kernel
theorem dX7_lastReleaseWithAward_88 : decode cX7_lastReleaseWithAward 88 = .ok (.istore 4, 2) := by decide +kernel
theorem dX7_lastReleaseWithAward_90 : decode cX7_lastReleaseWithAward 90 = .ok (.iload 4, 2) := by decide +kernel
theorem dX7_lastReleaseWithAward_92 : decode cX7_lastReleaseWithAward 92 = .ok (.aload_n 0, 1) := by decide +kernel
theorem dX7_lastReleaseWithAward_93 : decode cX7_lastReleaseWithAward 93 = .ok (.getfield 140, 3) := by decide +kernel
theorem dX7_lastReleaseWithAward_96 : decode cX7_lastReleaseWithAward 96 = .ok (.if_icmp .ge 137, 3) := by decide +kernel
theorem dX7_lastReleaseWithAward_99 : decode cX7_lastReleaseWithAward 99 = .ok (.iconst 0, 1) := by decide +kernel
theorem dX7_lastReleaseWithAward_100 : decode cX7_lastReleaseWithAward 100 = .ok (.istore 5, 2) := by decide +kernel
theorem dX7_lastReleaseWithAward_102 : decode cX7_lastReleaseWithAward 102 = .ok (.iload 4, 2) := by decide +kernel
theorem dX7_lastReleaseWithAward_104 : decode cX7_lastReleaseWithAward 104 = .ok (.istore 6, 2) := by decide +kernel
theorem dX7_lastReleaseWithAward_106 : decode cX7_lastReleaseWithAward 106 = .ok (.iload 6, 2) := by decide +kernel
theorem dX7_lastReleaseWithAward_108 : decode cX7_lastReleaseWithAward 108 = .ok (.iconst (-1), 1) := by decide +kernel
theorem dX7_lastReleaseWithAward_109 : decode cX7_lastReleaseWithAward 109 = .ok (.if_icmp .eq 37, 3) := by decide +kernel
theorem dX7_lastReleaseWithAward_112 : decode cX7_lastReleaseWithAward 112 = .ok (.iload 5, 2) := by decide +kernel
theorem dX7_lastReleaseWithAward_114 : decode cX7_lastReleaseWithAward 114 = .ok (.ifCond .ne 13, 3) := by decide +kernel
theorem dX7_lastReleaseWithAward_117 : decode cX7_lastReleaseWithAward 117 = .ok (.iload_n 2, 1) := by decide +kernel
theorem dX7_lastReleaseWithAward_118 : decode cX7_lastReleaseWithAward 118 = .ok (.iload 6, 2) := by decide +kernel
theorem dX7_lastReleaseWithAward_120 : decode cX7_lastReleaseWithAward 120 = .ok (.ishr, 1) := by decide +kernel
theorem dX7_lastReleaseWithAward_121 : decode cX7_lastReleaseWithAward 121 = .ok (.iconst 1, 1) := by decide +kernel
theorem dX7_lastReleaseWithAward_122 : decode cX7_lastReleaseWithAward 122 = .ok (.iand, 1) := by decide +kernel
theorem dX7_lastReleaseWithAward_123 : decode cX7_lastReleaseWithAward 123 = .ok (.iconst 1, 1) := by decide +kernel
theorem dX7_lastReleaseWithAward_124 : decode cX7_lastReleaseWithAward 124 = .ok (.if_icmp .ne 7, 3) := by decide +kernel
theorem dX7_lastReleaseWithAward_127 : decode cX7_lastReleaseWithAward 127 = .ok (.iconst 1, 1) := by decide +kernel
theorem dX7_lastReleaseWithAward_128 : decode cX7_lastReleaseWithAward 128 = .ok (.goto 4, 3) := by decide +kernel
theorem dX7_lastReleaseWithAward_131 : decode cX7_lastReleaseWithAward 131 = .ok (.iconst 0, 1) := by decide +kernel
theorem dX7_lastReleaseWithAward_132 : decode cX7_lastReleaseWithAward 132 = .ok (.istore 5, 2) := by decide +kernel
theorem dX7_lastReleaseWithAward_134 : decode cX7_lastReleaseWithAward 134 = .ok (.aload_n 0, 1) := by decide +kernel
theorem dX7_lastReleaseWithAward_135 : decode cX7_lastReleaseWithAward 135 = .ok (.getfield 32, 3) := by decide +kernel
theorem dX7_lastReleaseWithAward_138 : decode cX7_lastReleaseWithAward 138 = .ok (.iload 6, 2) := by decide +kernel
theorem dX7_lastReleaseWithAward_140 : decode cX7_lastReleaseWithAward 140 = .ok (.iaload, 1) := by decide +kernel
theorem dX7_lastReleaseWithAward_141 : decode cX7_lastReleaseWithAward 141 = .ok (.istore 6, 2) := by decide +kernel
theorem dX7_lastReleaseWithAward_143 : decode cX7_lastReleaseWithAward 143 = .ok (.goto (-37), 3) := by decide +kernel
theorem dX7_lastReleaseWithAward_146 : decode cX7_lastReleaseWithAward 146 = .ok (.aload_n 0, 1) := by decide +kernel
theorem dX7_lastReleaseWithAward_147 : decode cX7_lastReleaseWithAward 147 = .ok (.iload 4, 2) := by decide +kernel
theorem dX7_lastReleaseWithAward_149 : decode cX7_lastReleaseWithAward 149 = .ok (.invokevirtual 165, 3) := by decide +kernel
theorem dX7_lastReleaseWithAward_152 : decode cX7_lastReleaseWithAward 152 = .ok (.ifCond .eq 24, 3) := by decide +kernel
theorem dX7_lastReleaseWithAward_155 : decode cX7_lastReleaseWithAward 155 = .ok (.aload_n 0, 1) := by decide +kernel
theorem dX7_lastReleaseWithAward_156 : decode cX7_lastReleaseWithAward 156 = .ok (.getfield 81, 3) := by decide +kernel
theorem dX7_lastReleaseWithAward_159 : decode cX7_lastReleaseWithAward 159 = .ok (.iload 4, 2) := by decide +kernel
theorem dX7_lastReleaseWithAward_161 : decode cX7_lastReleaseWithAward 161 = .ok (.iaload, 1) := by decide +kernel
theorem dX7_lastReleaseWithAward_162 : decode cX7_lastReleaseWithAward 162 = .ok (.iload 5, 2) := by decide +kernel
theorem dX7_lastReleaseWithAward_164 : decode cX7_lastReleaseWithAward 164 = .ok (.ifCond .eq 7, 3) := by decide +kernel
theorem dX7_lastReleaseWithAward_167 : decode cX7_lastReleaseWithAward 167 = .ok (.iload_n 1, 1) := by decide +kernel
theorem dX7_lastReleaseWithAward_168 : decode cX7_lastReleaseWithAward 168 = .ok (.goto 4, 3) := by decide +kernel
theorem dX7_lastReleaseWithAward_171 : decode cX7_lastReleaseWithAward 171 = .ok (.iconst 0, 1) := by decide +kernel
theorem dX7_lastReleaseWithAward_172 : decode cX7_lastReleaseWithAward 172 = .ok (.iadd, 1) := by decide +kernel
theorem dX7_lastReleaseWithAward_173 : decode cX7_lastReleaseWithAward 173 = .ok (.goto 4, 3) := by decide +kernel
theorem dX7_lastReleaseWithAward_176 : decode cX7_lastReleaseWithAward 176 = .ok (.iconst 0, 1) := by decide +kernel
theorem dX7_lastReleaseWithAward_177 : decode cX7_lastReleaseWithAward 177 = .ok (.istore 6, 2) := by decide +kernel
theorem dX7_lastReleaseWithAward_179 : decode cX7_lastReleaseWithAward 179 = .ok (.aload_n 0, 1) := by decide +kernel
theorem dX7_lastReleaseWithAward_180 : decode cX7_lastReleaseWithAward 180 = .ok (.iload 4, 2) := by decide +kernel
theorem dX7_lastReleaseWithAward_182 : decode cX7_lastReleaseWithAward 182 = .ok (.invokevirtual 165, 3) := by decide +kernel
theorem dX7_lastReleaseWithAward_185 : decode cX7_lastReleaseWithAward 185 = .ok (.ifCond .eq 25, 3) := by decide +kernel
theorem dX7_lastReleaseWithAward_188 : decode cX7_lastReleaseWithAward 188 = .ok (.iload 6, 2) := by decide +kernel
theorem dX7_lastReleaseWithAward_190 : decode cX7_lastReleaseWithAward 190 = .ok (.aload_n 0, 1) := by decide +kernel
theorem dX7_lastReleaseWithAward_191 : decode cX7_lastReleaseWithAward 191 = .ok (.getfield 84, 3) := by decide +kernel
theorem dX7_lastReleaseWithAward_194 : decode cX7_lastReleaseWithAward 194 = .ok (.iload 4, 2) := by decide +kernel
theorem dX7_lastReleaseWithAward_196 : decode cX7_lastReleaseWithAward 196 = .ok (.iaload, 1) := by decide +kernel
theorem dX7_lastReleaseWithAward_197 : decode cX7_lastReleaseWithAward 197 = .ok (.if_icmp .le 13, 3) := by decide +kernel
theorem dX7_lastReleaseWithAward_200 : decode cX7_lastReleaseWithAward 200 = .ok (.aload_n 0, 1) := by decide +kernel
theorem dX7_lastReleaseWithAward_201 : decode cX7_lastReleaseWithAward 201 = .ok (.getfield 84, 3) := by decide +kernel
theorem dX7_lastReleaseWithAward_204 : decode cX7_lastReleaseWithAward 204 = .ok (.iload 4, 2) := by decide +kernel
theorem dX7_lastReleaseWithAward_206 : decode cX7_lastReleaseWithAward 206 = .ok (.iaload, 1) := by decide +kernel
theorem dX7_lastReleaseWithAward_207 : decode cX7_lastReleaseWithAward 207 = .ok (.goto 5, 3) := by decide +kernel
theorem dX7_lastReleaseWithAward_210 : decode cX7_lastReleaseWithAward 210 = .ok (.iload 6, 2) := by decide +kernel
theorem dX7_lastReleaseWithAward_212 : decode cX7_lastReleaseWithAward 212 = .ok (.istore 6, 2) := by decide +kernel
theorem dX7_lastReleaseWithAward_214 : decode cX7_lastReleaseWithAward 214 = .ok (.iload 6, 2) := by decide +kernel
theorem dX7_lastReleaseWithAward_216 : decode cX7_lastReleaseWithAward 216 = .ok (.iload_n 3, 1) := by decide +kernel
theorem dX7_lastReleaseWithAward_217 : decode cX7_lastReleaseWithAward 217 = .ok (.if_icmp .le 8, 3) := by decide +kernel
theorem dX7_lastReleaseWithAward_220 : decode cX7_lastReleaseWithAward 220 = .ok (.iload 6, 2) := by decide +kernel
theorem dX7_lastReleaseWithAward_222 : decode cX7_lastReleaseWithAward 222 = .ok (.goto 4, 3) := by decide +kernel
theorem dX7_lastReleaseWithAward_225 : decode cX7_lastReleaseWithAward 225 = .ok (.iload_n 3, 1) := by decide +kernel
theorem dX7_lastReleaseWithAward_226 : decode cX7_lastReleaseWithAward 226 = .ok (.istore_n 3, 1) := by decide +kernel
theorem dX7_lastReleaseWithAward_227 : decode cX7_lastReleaseWithAward 227 = .ok (.iinc 4 1, 3) := by decide +kernel
theorem dX7_lastReleaseWithAward_230 : decode cX7_lastReleaseWithAward 230 = .ok (.goto (-140), 3) := by decide +kernel
theorem dX7_lastReleaseWithAward_233 : decode cX7_lastReleaseWithAward 233 = .ok (.iload_n 3, 1) := by decide +kernel
theorem dX7_lastReleaseWithAward_234 : decode cX7_lastReleaseWithAward 234 = .ok (.ireturn, 1) := by decide +kernel
theorem dX7_lastReleaseWithout_0 : decode cX7_lastReleaseWithout 0 = .ok (.aload_n 0, 1) := by decide +kernel
theorem dX7_lastReleaseWithout_1 : decode cX7_lastReleaseWithout 1 = .ok (.iload_n 1, 1) := by decide +kernel
theorem dX7_lastReleaseWithout_2 : decode cX7_lastReleaseWithout 2 = .ok (.invokevirtual 242, 3) := by decide +kernel
theorem dX7_lastReleaseWithout_5 : decode cX7_lastReleaseWithout 5 = .ok (.ifCond .eq 5, 3) := by decide +kernel
theorem dX7_lastReleaseWithout_8 : decode cX7_lastReleaseWithout 8 = .ok (.iconst 0, 1) := by decide +kernel
theorem dX7_lastReleaseWithout_9 : decode cX7_lastReleaseWithout 9 = .ok (.ireturn, 1) := by decide +kernel
theorem dX7_lastReleaseWithout_10 : decode cX7_lastReleaseWithout 10 = .ok (.iconst 0, 1) := by decide +kernel
theorem dX7_lastReleaseWithout_11 : decode cX7_lastReleaseWithout 11 = .ok (.istore_n 2, 1) := by decide +kernel
theorem dX7_lastReleaseWithout_12 : decode cX7_lastReleaseWithout 12 = .ok (.iload_n 2, 1) := by decide +kernel
theorem dX7_lastReleaseWithout_13 : decode cX7_lastReleaseWithout 13 = .ok (.bipush 10, 2) := by decide +kernel
theorem dX7_lastReleaseWithout_15 : decode cX7_lastReleaseWithout 15 = .ok (.if_icmp .ge 33, 3) := by decide +kernel
theorem dX7_lastReleaseWithout_18 : decode cX7_lastReleaseWithout 18 = .ok (.aload_n 0, 1) := by decide +kernel
theorem dX7_lastReleaseWithout_19 : decode cX7_lastReleaseWithout 19 = .ok (.getfield 87, 3) := by decide +kernel
theorem dX7_lastReleaseWithout_22 : decode cX7_lastReleaseWithout 22 = .ok (.iload_n 2, 1) := by decide +kernel
theorem dX7_lastReleaseWithout_23 : decode cX7_lastReleaseWithout 23 = .ok (.aload_n 0, 1) := by decide +kernel
theorem dX7_lastReleaseWithout_24 : decode cX7_lastReleaseWithout 24 = .ok (.getfield 32, 3) := by decide +kernel
theorem dX7_lastReleaseWithout_27 : decode cX7_lastReleaseWithout 27 = .ok (.iload_n 2, 1) := by decide +kernel
theorem dX7_lastReleaseWithout_28 : decode cX7_lastReleaseWithout 28 = .ok (.iaload, 1) := by decide +kernel
theorem dX7_lastReleaseWithout_29 : decode cX7_lastReleaseWithout 29 = .ok (.iastore, 1) := by decide +kernel
theorem dX7_lastReleaseWithout_30 : decode cX7_lastReleaseWithout 30 = .ok (.aload_n 0, 1) := by decide +kernel
theorem dX7_lastReleaseWithout_31 : decode cX7_lastReleaseWithout 31 = .ok (.getfield 90, 3) := by decide +kernel
theorem dX7_lastReleaseWithout_34 : decode cX7_lastReleaseWithout 34 = .ok (.iload_n 2, 1) := by decide +kernel
theorem dX7_lastReleaseWithout_35 : decode cX7_lastReleaseWithout 35 = .ok (.aload_n 0, 1) := by decide +kernel
theorem dX7_lastReleaseWithout_36 : decode cX7_lastReleaseWithout 36 = .ok (.getfield 29, 3) := by decide +kernel
theorem dX7_lastReleaseWithout_39 : decode cX7_lastReleaseWithout 39 = .ok (.iload_n 2, 1) := by decide +kernel
theorem dX7_lastReleaseWithout_40 : decode cX7_lastReleaseWithout 40 = .ok (.iaload, 1) := by decide +kernel
theorem dX7_lastReleaseWithout_41 : decode cX7_lastReleaseWithout 41 = .ok (.iastore, 1) := by decide +kernel
theorem dX7_lastReleaseWithout_42 : decode cX7_lastReleaseWithout 42 = .ok (.iinc 2 1, 3) := by decide +kernel
theorem dX7_lastReleaseWithout_45 : decode cX7_lastReleaseWithout 45 = .ok (.goto (-33), 3) := by decide +kernel
theorem dX7_lastReleaseWithout_48 : decode cX7_lastReleaseWithout 48 = .ok (.aload_n 0, 1) := by decide +kernel
theorem dX7_lastReleaseWithout_49 : decode cX7_lastReleaseWithout 49 = .ok (.iload_n 1, 1) := by decide +kernel
theorem dX7_lastReleaseWithout_50 : decode cX7_lastReleaseWithout 50 = .ok (.invokevirtual 231, 3) := by decide +kernel
theorem dX7_lastReleaseWithout_53 : decode cX7_lastReleaseWithout 53 = .ok (.istore_n 2, 1) := by decide +kernel
theorem dX7_lastReleaseWithout_54 : decode cX7_lastReleaseWithout 54 = .ok (.aload_n 0, 1) := by decide +kernel
theorem dX7_lastReleaseWithout_55 : decode cX7_lastReleaseWithout 55 = .ok (.invokevirtual 254, 3) := by decide +kernel
theorem dX7_lastReleaseWithout_58 : decode cX7_lastReleaseWithout 58 = .ok (.istore_n 3, 1) := by decide +kernel
theorem dX7_lastReleaseWithout_59 : decode cX7_lastReleaseWithout 59 = .ok (.aload_n 0, 1) := by decide +kernel
theorem dX7_lastReleaseWithout_60 : decode cX7_lastReleaseWithout 60 = .ok (.invokevirtual 190, 3) := by decide +kernel
theorem dX7_lastReleaseWithout_63 : decode cX7_lastReleaseWithout 63 = .ok (.istore 4, 2) := by decide +kernel
theorem dX7_lastReleaseWithout_65 : decode cX7_lastReleaseWithout 65 = .ok (.aload_n 0, 1) := by decide +kernel
theorem dX7_lastReleaseWithout_66 : decode cX7_lastReleaseWithout 66 = .ok (.getfield 35, 3) := by decide +kernel
theorem dX7_lastReleaseWithout_69 : decode cX7_lastReleaseWithout 69 = .ok (.iload_n 1, 1) := by decide +kernel
theorem dX7_lastReleaseWithout_70 : decode cX7_lastReleaseWithout 70 = .ok (.iconst 0, 1) := by decide +kernel
theorem dX7_lastReleaseWithout_71 : decode cX7_lastReleaseWithout 71 = .ok (.bastore, 1) := by decide +kernel
theorem dX7_lastReleaseWithout_72 : decode cX7_lastReleaseWithout 72 = .ok (.iconst 0, 1) := by decide +kernel
theorem dX7_lastReleaseWithout_73 : decode cX7_lastReleaseWithout 73 = .ok (.istore 5, 2) := by decide +kernel
theorem dX7_lastReleaseWithout_75 : decode cX7_lastReleaseWithout 75 = .ok (.iload 5, 2) := by decide +kernel
theorem dX7_lastReleaseWithout_77 : decode cX7_lastReleaseWithout 77 = .ok (.bipush 10, 2) := by decide +kernel
theorem dX7_lastReleaseWithout_79 : decode cX7_lastReleaseWithout 79 = .ok (.if_icmp .ge 37, 3) := by decide +kernel
theorem dX7_lastReleaseWithout_82 : decode cX7_lastReleaseWithout 82 = .ok (.aload_n 0, 1) := by decide +kernel
theorem dX7_lastReleaseWithout_83 : decode cX7_lastReleaseWithout 83 = .ok (.getfield 32, 3) := by decide +kernel
theorem dX7_lastReleaseWithout_86 : decode cX7_lastReleaseWithout 86 = .ok (.iload 5, 2) := by decide +kernel
theorem dX7_lastReleaseWithout_88 : decode cX7_lastReleaseWithout 88 = .ok (.aload_n 0, 1) := by decide +kernel
theorem dX7_lastReleaseWithout_89 : decode cX7_lastReleaseWithout 89 = .ok (.getfield 87, 3) := by decide +kernel
theorem dX7_lastReleaseWithout_92 : decode cX7_lastReleaseWithout 92 = .ok (.iload 5, 2) := by decide +kernel
theorem dX7_lastReleaseWithout_94 : decode cX7_lastReleaseWithout 94 = .ok (.iaload, 1) := by decide +kernel
theorem dX7_lastReleaseWithout_95 : decode cX7_lastReleaseWithout 95 = .ok (.iastore, 1) := by decide +kernel
theorem dX7_lastReleaseWithout_96 : decode cX7_lastReleaseWithout 96 = .ok (.aload_n 0, 1) := by decide +kernel
theorem dX7_lastReleaseWithout_97 : decode cX7_lastReleaseWithout 97 = .ok (.getfield 29, 3) := by decide +kernel
theorem dX7_lastReleaseWithout_100 : decode cX7_lastReleaseWithout 100 = .ok (.iload 5, 2) := by decide +kernel
theorem dX7_lastReleaseWithout_102 : decode cX7_lastReleaseWithout 102 = .ok (.aload_n 0, 1) := by decide +kernel
theorem dX7_lastReleaseWithout_103 : decode cX7_lastReleaseWithout 103 = .ok (.getfield 90, 3) := by decide +kernel
theorem dX7_lastReleaseWithout_106 : decode cX7_lastReleaseWithout 106 = .ok (.iload 5, 2) := by decide +kernel
theorem dX7_lastReleaseWithout_108 : decode cX7_lastReleaseWithout 108 = .ok (.iaload, 1) := by decide +kernel
theorem dX7_lastReleaseWithout_109 : decode cX7_lastReleaseWithout 109 = .ok (.iastore, 1) := by decide +kernel
theorem dX7_lastReleaseWithout_110 : decode cX7_lastReleaseWithout 110 = .ok (.iinc 5 1, 3) := by decide +kernel
theorem dX7_lastReleaseWithout_113 : decode cX7_lastReleaseWithout 113 = .ok (.goto (-38), 3) := by decide +kernel
theorem dX7_lastReleaseWithout_116 : decode cX7_lastReleaseWithout 116 = .ok (.aload_n 0, 1) := by decide +kernel
theorem dX7_lastReleaseWithout_117 : decode cX7_lastReleaseWithout 117 = .ok (.invokevirtual 206, 3) := by decide +kernel
theorem dX7_lastReleaseWithout_120 : decode cX7_lastReleaseWithout 120 = .ok (.aload_n 0, 1) := by decide +kernel
theorem dX7_lastReleaseWithout_121 : decode cX7_lastReleaseWithout 121 = .ok (.iload_n 3, 1) := by decide +kernel
theorem dX7_lastReleaseWithout_122 : decode cX7_lastReleaseWithout 122 = .ok (.ifCond .eq 7, 3) := by decide +kernel
theorem dX7_lastReleaseWithout_125 : decode cX7_lastReleaseWithout 125 = .ok (.iconst 0, 1) := by decide +kernel
theorem dX7_lastReleaseWithout_126 : decode cX7_lastReleaseWithout 126 = .ok (.goto 4, 3) := by decide +kernel
theorem dX7_lastReleaseWithout_129 : decode cX7_lastReleaseWithout 129 = .ok (.iconst 3, 1) := by decide +kernel
theorem dX7_lastReleaseWithout_130 : decode cX7_lastReleaseWithout 130 = .ok (.invokevirtual 126, 3) := by decide +kernel
theorem dX7_lastReleaseWithout_133 : decode cX7_lastReleaseWithout 133 = .ok (.ifCond .eq 7, 3) := by decide +kernel
theorem dX7_lastReleaseWithout_136 : decode cX7_lastReleaseWithout 136 = .ok (.iconst 0, 1) := by decide +kernel
theorem dX7_lastReleaseWithout_137 : decode cX7_lastReleaseWithout 137 = .ok (.goto 5, 3) := by decide +kernel
theorem dX7_lastReleaseWithout_140 : decode cX7_lastReleaseWithout 140 = .ok (.iload 4, 2) := by decide +kernel
theorem dX7_lastReleaseWithout_142 : decode cX7_lastReleaseWithout 142 = .ok (.ireturn, 1) := by decide +kernel
theorem dX7_servedDays_0 : decode cX7_servedDays 0 = .ok (.aload_n 0, 1) := by decide +kernel
theorem dX7_servedDays_1 : decode cX7_servedDays 1 = .ok (.iconst 0, 1) := by decide +kernel
theorem dX7_servedDays_2 : decode cX7_servedDays 2 = .ok (.putfield 93, 3) := by decide +kernel
theorem dX7_servedDays_5 : decode cX7_servedDays 5 = .ok (.aload_n 0, 1) := by decide +kernel
theorem dX7_servedDays_6 : decode cX7_servedDays 6 = .ok (.getfield 203, 3) := by decide +kernel
theorem dX7_servedDays_9 : decode cX7_servedDays 9 = .ok (.ireturn, 1) := by decide +kernel
theorem dX7_licenceDays_0 : decode cX7_licenceDays 0 = .ok (.aload_n 0, 1) := by decide +kernel
theorem dX7_licenceDays_1 : decode cX7_licenceDays 1 = .ok (.iconst 0, 1) := by decide +kernel
theorem dX7_licenceDays_2 : decode cX7_licenceDays 2 = .ok (.putfield 93, 3) := by decide +kernel
theorem dX7_licenceDays_5 : decode cX7_licenceDays 5 = .ok (.aload_n 0, 1) := by decide +kernel
theorem dX7_licenceDays_6 : decode cX7_licenceDays 6 = .ok (.getfield 200, 3) := by decide +kernel
theorem dX7_licenceDays_9 : decode cX7_licenceDays 9 = .ok (.ireturn, 1) := by decide +kernel
theorem dX7_statusOn_0 : decode cX7_statusOn 0 = .ok (.aload_n 0, 1) := by decide +kernel
theorem dX7_statusOn_1 : decode cX7_statusOn 1 = .ok (.iload_n 1, 1) := by decide +kernel
theorem dX7_statusOn_2 : decode cX7_statusOn 2 = .ok (.iconst 0, 1) := by decide +kernel
theorem dX7_statusOn_3 : decode cX7_statusOn 3 = .ok (.aload_n 0, 1) := by decide +kernel
theorem dX7_statusOn_4 : decode cX7_statusOn 4 = .ok (.getfield 187, 3) := by decide +kernel
theorem dX7_statusOn_7 : decode cX7_statusOn 7 = .ok (.iconst 1, 1) := by decide +kernel
theorem dX7_statusOn_8 : decode cX7_statusOn 8 = .ok (.isub, 1) := by decide +kernel
theorem dX7_statusOn_9 : decode cX7_statusOn 9 = .ok (.invokestatic 122, 3) := by decide +kernel
theorem dX7_statusOn_12 : decode cX7_statusOn 12 = .ok (.ifCond .eq 7, 3) := by decide +kernel
theorem dX7_statusOn_15 : decode cX7_statusOn 15 = .ok (.iconst 0, 1) := by decide +kernel
theorem dX7_statusOn_16 : decode cX7_statusOn 16 = .ok (.goto 4, 3) := by decide +kernel
theorem dX7_statusOn_19 : decode cX7_statusOn 19 = .ok (.iconst 1, 1) := by decide +kernel
theorem dX7_statusOn_20 : decode cX7_statusOn 20 = .ok (.invokevirtual 126, 3) := by decide +kernel
theorem dX7_statusOn_23 : decode cX7_statusOn 23 = .ok (.ifCond .eq 7, 3) := by decide +kernel
theorem dX7_statusOn_26 : decode cX7_statusOn 26 = .ok (.iconst 0, 1) := by decide +kernel
theorem dX7_statusOn_27 : decode cX7_statusOn 27 = .ok (.goto 9, 3) := by decide +kernel
theorem dX7_statusOn_30 : decode cX7_statusOn 30 = .ok (.aload_n 0, 1) := by decide +kernel
theorem dX7_statusOn_31 : decode cX7_statusOn 31 = .ok (.getfield 9, 3) := by decide +kernel
theorem dX7_statusOn_34 : decode cX7_statusOn 34 = .ok (.iload_n 1, 1) := by decide +kernel
theorem dX7_statusOn_35 : decode cX7_statusOn 35 = .ok (.baload, 1) := by decide +kernel
theorem dX7_statusOn_36 : decode cX7_statusOn 36 = .ok (.ireturn, 1) := by decide +kernel
theorem dX7_figures_0 : decode cX7_figures 0 = .ok (.iconst 1, 1) := by decide +kernel
theorem dX7_figures_1 : decode cX7_figures 1 = .ok (.istore_n 1, 1) := by decide +kernel
theorem dX7_figures_2 : decode cX7_figures 2 = .ok (.iload_n 0, 1) := by decide +kernel
theorem dX7_figures_3 : decode cX7_figures 3 = .ok (.istore_n 2, 1) := by decide +kernel
theorem dX7_figures_4 : decode cX7_figures 4 = .ok (.iload_n 2, 1) := by decide +kernel
theorem dX7_figures_5 : decode cX7_figures 5 = .ok (.bipush 9, 2) := by decide +kernel
theorem dX7_figures_7 : decode cX7_figures 7 = .ok (.if_icmp .le 14, 3) := by decide +kernel
theorem dX7_figures_10 : decode cX7_figures 10 = .ok (.iinc 1 1, 3) := by decide +kernel
theorem dX7_figures_13 : decode cX7_figures 13 = .ok (.iload_n 2, 1) := by decide +kernel
theorem dX7_figures_14 : decode cX7_figures 14 = .ok (.bipush 10, 2) := by decide +kernel
theorem dX7_figures_16 : decode cX7_figures 16 = .ok (.idiv, 1) := by decide +kernel
theorem dX7_figures_17 : decode cX7_figures 17 = .ok (.istore_n 2, 1) := by decide +kernel
theorem dX7_figures_18 : decode cX7_figures 18 = .ok (.goto (-14), 3) := by decide +kernel
theorem dX7_figures_21 : decode cX7_figures 21 = .ok (.iload_n 1, 1) := by decide +kernel
theorem dX7_figures_22 : decode cX7_figures 22 = .ok (.ireturn, 1) := by decide +kernel
theorem dX7_runFrom_0 : decode cX7_runFrom 0 = .ok (.iload_n 1, 1) := by decide +kernel
theorem dX7_runFrom_1 : decode cX7_runFrom 1 = .ok (.istore_n 2, 1) := by decide +kernel
theorem dX7_runFrom_2 : decode cX7_runFrom 2 = .ok (.iload_n 2, 1) := by decide +kernel
theorem dX7_runFrom_3 : decode cX7_runFrom 3 = .ok (.aload_n 0, 1) := by decide +kernel
theorem dX7_runFrom_4 : decode cX7_runFrom 4 = .ok (.getfield 263, 3) := by decide +kernel
theorem dX7_runFrom_7 : decode cX7_runFrom 7 = .ok (.if_icmp .ge 24, 3) := by decide +kernel
theorem dX7_runFrom_10 : decode cX7_runFrom 10 = .ok (.aload_n 0, 1) := by decide +kernel
theorem dX7_runFrom_11 : decode cX7_runFrom 11 = .ok (.getfield 9, 3) := by decide +kernel
theorem dX7_runFrom_14 : decode cX7_runFrom 14 = .ok (.iload_n 2, 1) := by decide +kernel
theorem dX7_runFrom_15 : decode cX7_runFrom 15 = .ok (.baload, 1) := by decide +kernel
theorem dX7_runFrom_16 : decode cX7_runFrom 16 = .ok (.aload_n 0, 1) := by decide +kernel
theorem dX7_runFrom_17 : decode cX7_runFrom 17 = .ok (.getfield 9, 3) := by decide +kernel
theorem dX7_runFrom_20 : decode cX7_runFrom 20 = .ok (.iload_n 1, 1) := by decide +kernel
theorem dX7_runFrom_21 : decode cX7_runFrom 21 = .ok (.baload, 1) := by decide +kernel
theorem dX7_runFrom_22 : decode cX7_runFrom 22 = .ok (.if_icmp .ne 9, 3) := by decide +kernel
theorem dX7_runFrom_25 : decode cX7_runFrom 25 = .ok (.iinc 2 1, 3) := by decide +kernel
theorem dX7_runFrom_28 : decode cX7_runFrom 28 = .ok (.goto (-26), 3) := by decide +kernel
theorem dX7_runFrom_31 : decode cX7_runFrom 31 = .ok (.iload_n 2, 1) := by decide +kernel
theorem dX7_runFrom_32 : decode cX7_runFrom 32 = .ok (.iload_n 1, 1) := by decide +kernel
theorem dX7_runFrom_33 : decode cX7_runFrom 33 = .ok (.isub, 1) := by decide +kernel
theorem dX7_runFrom_34 : decode cX7_runFrom 34 = .ok (.ireturn, 1) := by decide +kernel
theorem dX7_sizeToTold_0 : decode cX7_sizeToTold 0 = .ok (.iconst 0, 1) := by decide +kernel
theorem dX7_sizeToTold_1 : decode cX7_sizeToTold 1 = .ok (.istore_n 1, 1) := by decide +kernel
theorem dX7_sizeToTold_2 : decode cX7_sizeToTold 2 = .ok (.iconst 0, 1) := by decide +kernel
theorem dX7_sizeToTold_3 : decode cX7_sizeToTold 3 = .ok (.istore_n 2, 1) := by decide +kernel
theorem dX7_sizeToTold_4 : decode cX7_sizeToTold 4 = .ok (.iload_n 2, 1) := by decide +kernel
theorem dX7_sizeToTold_5 : decode cX7_sizeToTold 5 = .ok (.aload_n 0, 1) := by decide +kernel
theorem dX7_sizeToTold_6 : decode cX7_sizeToTold 6 = .ok (.getfield 263, 3) := by decide +kernel
theorem dX7_sizeToTold_9 : decode cX7_sizeToTold 9 = .ok (.if_icmp .ge 33, 3) := by decide +kernel
theorem dX7_sizeToTold_12 : decode cX7_sizeToTold 12 = .ok (.aload_n 0, 1) := by decide +kernel
theorem dX7_sizeToTold_13 : decode cX7_sizeToTold 13 = .ok (.iload_n 2, 1) := by decide +kernel
theorem dX7_sizeToTold_14 : decode cX7_sizeToTold 14 = .ok (.invokevirtual 266, 3) := by decide +kernel
theorem dX7_sizeToTold_17 : decode cX7_sizeToTold 17 = .ok (.istore_n 3, 1) := by decide +kernel
theorem dX7_sizeToTold_18 : decode cX7_sizeToTold 18 = .ok (.iload_n 1, 1) := by decide +kernel
theorem dX7_sizeToTold_19 : decode cX7_sizeToTold 19 = .ok (.iload_n 2, 1) := by decide +kernel
theorem dX7_sizeToTold_20 : decode cX7_sizeToTold 20 = .ok (.ifCond .le 7, 3) := by decide +kernel
theorem dX7_sizeToTold_23 : decode cX7_sizeToTold 23 = .ok (.iconst 2, 1) := by decide +kernel
theorem dX7_sizeToTold_24 : decode cX7_sizeToTold 24 = .ok (.goto 4, 3) := by decide +kernel
theorem dX7_sizeToTold_27 : decode cX7_sizeToTold 27 = .ok (.iconst 1, 1) := by decide +kernel
theorem dX7_sizeToTold_28 : decode cX7_sizeToTold 28 = .ok (.iload_n 3, 1) := by decide +kernel
theorem dX7_sizeToTold_29 : decode cX7_sizeToTold 29 = .ok (.invokestatic 269, 3) := by decide +kernel
theorem dX7_sizeToTold_32 : decode cX7_sizeToTold 32 = .ok (.iadd, 1) := by decide +kernel
theorem dX7_sizeToTold_33 : decode cX7_sizeToTold 33 = .ok (.iadd, 1) := by decide +kernel
theorem dX7_sizeToTold_34 : decode cX7_sizeToTold 34 = .ok (.istore_n 1, 1) := by decide +kernel
theorem dX7_sizeToTold_35 : decode cX7_sizeToTold 35 = .ok (.iload_n 2, 1) := by decide +kernel
theorem dX7_sizeToTold_36 : decode cX7_sizeToTold 36 = .ok (.iload_n 3, 1) := by decide +kernel
theorem dX7_sizeToTold_37 : decode cX7_sizeToTold 37 = .ok (.iadd, 1) := by decide +kernel
theorem dX7_sizeToTold_38 : decode cX7_sizeToTold 38 = .ok (.istore_n 2, 1) := by decide +kernel
theorem dX7_sizeToTold_39 : decode cX7_sizeToTold 39 = .ok (.goto (-35), 3) := by decide +kernel
theorem dX7_sizeToTold_42 : decode cX7_sizeToTold 42 = .ok (.iload_n 1, 1) := by decide +kernel
theorem dX7_sizeToTold_43 : decode cX7_sizeToTold 43 = .ok (.ireturn, 1) := by decide +kernel
theorem dX7_writeHistory_0 : decode cX7_writeHistory 0 = .ok (.aload_n 0, 1) := by decide +kernel
theorem dX7_writeHistory_1 : decode cX7_writeHistory 1 = .ok (.iconst 0, 1) := by decide +kernel
theorem dX7_writeHistory_2 : decode cX7_writeHistory 2 = .ok (.putfield 93, 3) := by decide +kernel
theorem dX7_writeHistory_5 : decode cX7_writeHistory 5 = .ok (.aload_n 0, 1) := by decide +kernel
theorem dX7_writeHistory_6 : decode cX7_writeHistory 6 = .ok (.aload_n 0, 1) := by decide +kernel
theorem dX7_writeHistory_7 : decode cX7_writeHistory 7 = .ok (.getfield 187, 3) := by decide +kernel
theorem dX7_writeHistory_10 : decode cX7_writeHistory 10 = .ok (.putfield 263, 3) := by decide +kernel
theorem dX7_writeHistory_13 : decode cX7_writeHistory 13 = .ok (.aload_n 0, 1) := by decide +kernel
theorem dX7_writeHistory_14 : decode cX7_writeHistory 14 = .ok (.invokevirtual 272, 3) := by decide +kernel
theorem dX7_writeHistory_17 : decode cX7_writeHistory 17 = .ok (.ireturn, 1) := by decide +kernel
theorem dX7_signOf_0 : decode cX7_signOf 0 = .ok (.iload_n 1, 1) := by decide +kernel
theorem dX7_signOf_1 : decode cX7_signOf 1 = .ok (.invokestatic 269, 3) := by decide +kernel
theorem dX7_signOf_4 : decode cX7_signOf 4 = .ok (.istore_n 3, 1) := by decide +kernel
theorem dX7_signOf_5 : decode cX7_signOf 5 = .ok (.iload_n 2, 1) := by decide +kernel
theorem dX7_signOf_6 : decode cX7_signOf 6 = .ok (.ifCond .eq 8, 3) := by decide +kernel
theorem dX7_signOf_9 : decode cX7_signOf 9 = .ok (.iload_n 2, 1) := by decide +kernel
theorem dX7_signOf_10 : decode cX7_signOf 10 = .ok (.iload_n 3, 1) := by decide +kernel
theorem dX7_signOf_11 : decode cX7_signOf 11 = .ok (.if_icmp .le 35, 3) := by decide +kernel
theorem dX7_signOf_14 : decode cX7_signOf 14 = .ok (.iload_n 2, 1) := by decide +kernel
theorem dX7_signOf_15 : decode cX7_signOf 15 = .ok (.ifCond .le 8, 3) := by decide +kernel
theorem dX7_signOf_18 : decode cX7_signOf 18 = .ok (.bipush 32, 2) := by decide +kernel
theorem dX7_signOf_20 : decode cX7_signOf 20 = .ok (.goto 25, 3) := by decide +kernel
theorem dX7_signOf_23 : decode cX7_signOf 23 = .ok (.iload_n 0, 1) := by decide +kernel
theorem dX7_signOf_24 : decode cX7_signOf 24 = .ok (.iconst 2, 1) := by decide +kernel
theorem dX7_signOf_25 : decode cX7_signOf 25 = .ok (.if_icmp .ne 8, 3) := by decide +kernel
theorem dX7_signOf_28 : decode cX7_signOf 28 = .ok (.bipush 99, 2) := by decide +kernel
theorem dX7_signOf_30 : decode cX7_signOf 30 = .ok (.goto 15, 3) := by decide +kernel
theorem dX7_signOf_33 : decode cX7_signOf 33 = .ok (.iload_n 0, 1) := by decide +kernel
theorem dX7_signOf_34 : decode cX7_signOf 34 = .ok (.iconst 1, 1) := by decide +kernel
theorem dX7_signOf_35 : decode cX7_signOf 35 = .ok (.if_icmp .ne 8, 3) := by decide +kernel
theorem dX7_signOf_38 : decode cX7_signOf 38 = .ok (.bipush 108, 2) := by decide +kernel
theorem dX7_signOf_40 : decode cX7_signOf 40 = .ok (.goto 5, 3) := by decide +kernel
theorem dX7_signOf_43 : decode cX7_signOf 43 = .ok (.bipush 102, 2) := by decide +kernel
theorem dX7_signOf_45 : decode cX7_signOf 45 = .ok (.ireturn, 1) := by decide +kernel
theorem dX7_signOf_46 : decode cX7_signOf 46 = .ok (.iload_n 1, 1) := by decide +kernel
theorem dX7_signOf_47 : decode cX7_signOf 47 = .ok (.istore 4, 2) := by decide +kernel
theorem dX7_signOf_49 : decode cX7_signOf 49 = .ok (.iload_n 2, 1) := by decide +kernel
theorem dX7_signOf_50 : decode cX7_signOf 50 = .ok (.istore 5, 2) := by decide +kernel
theorem dX7_signOf_52 : decode cX7_signOf 52 = .ok (.iload 5, 2) := by decide +kernel
theorem dX7_signOf_54 : decode cX7_signOf 54 = .ok (.iload_n 3, 1) := by decide +kernel
theorem dX7_signOf_55 : decode cX7_signOf 55 = .ok (.if_icmp .ge 16, 3) := by decide +kernel
theorem dX7_signOf_58 : decode cX7_signOf 58 = .ok (.iload 4, 2) := by decide +kernel
theorem dX7_signOf_60 : decode cX7_signOf 60 = .ok (.bipush 10, 2) := by decide +kernel
theorem dX7_signOf_62 : decode cX7_signOf 62 = .ok (.idiv, 1) := by decide +kernel
theorem dX7_signOf_63 : decode cX7_signOf 63 = .ok (.istore 4, 2) := by decide +kernel
theorem dX7_signOf_65 : decode cX7_signOf 65 = .ok (.iinc 5 1, 3) := by decide +kernel
theorem dX7_signOf_68 : decode cX7_signOf 68 = .ok (.goto (-16), 3) := by decide +kernel
theorem dX7_signOf_71 : decode cX7_signOf 71 = .ok (.bipush 48, 2) := by decide +kernel
theorem dX7_signOf_73 : decode cX7_signOf 73 = .ok (.iload 4, 2) := by decide +kernel
theorem dX7_signOf_75 : decode cX7_signOf 75 = .ok (.bipush 10, 2) := by decide +kernel
theorem dX7_signOf_77 : decode cX7_signOf 77 = .ok (.irem, 1) := by decide +kernel
theorem dX7_signOf_78 : decode cX7_signOf 78 = .ok (.iadd, 1) := by decide +kernel
theorem dX7_signOf_79 : decode cX7_signOf 79 = .ok (.i2c, 1) := by decide +kernel
theorem dX7_signOf_80 : decode cX7_signOf 80 = .ok (.ireturn, 1) := by decide +kernel
theorem dX7_outputAt_0 : decode cX7_outputAt 0 = .ok (.aload_n 0, 1) := by decide +kernel
theorem dX7_outputAt_1 : decode cX7_outputAt 1 = .ok (.iload_n 1, 1) := by decide +kernel
theorem dX7_outputAt_2 : decode cX7_outputAt 2 = .ok (.iconst 0, 1) := by decide +kernel
theorem dX7_outputAt_3 : decode cX7_outputAt 3 = .ok (.aload_n 0, 1) := by decide +kernel
theorem dX7_outputAt_4 : decode cX7_outputAt 4 = .ok (.invokevirtual 272, 3) := by decide +kernel
theorem dX7_outputAt_7 : decode cX7_outputAt 7 = .ok (.iconst 1, 1) := by decide +kernel
theorem dX7_outputAt_8 : decode cX7_outputAt 8 = .ok (.isub, 1) := by decide +kernel
theorem dX7_outputAt_9 : decode cX7_outputAt 9 = .ok (.invokestatic 122, 3) := by decide +kernel
theorem dX7_outputAt_12 : decode cX7_outputAt 12 = .ok (.ifCond .eq 7, 3) := by decide +kernel
theorem dX7_outputAt_15 : decode cX7_outputAt 15 = .ok (.iconst 0, 1) := by decide +kernel
theorem dX7_outputAt_16 : decode cX7_outputAt 16 = .ok (.goto 4, 3) := by decide +kernel
theorem dX7_outputAt_19 : decode cX7_outputAt 19 = .ok (.iconst 1, 1) := by decide +kernel
theorem dX7_outputAt_20 : decode cX7_outputAt 20 = .ok (.invokevirtual 126, 3) := by decide +kernel
theorem dX7_outputAt_23 : decode cX7_outputAt 23 = .ok (.ifCond .eq 5, 3) := by decide +kernel
theorem dX7_outputAt_26 : decode cX7_outputAt 26 = .ok (.iconst 0, 1) := by decide +kernel
theorem dX7_outputAt_27 : decode cX7_outputAt 27 = .ok (.ireturn, 1) := by decide +kernel
theorem dX7_outputAt_28 : decode cX7_outputAt 28 = .ok (.iload_n 1, 1) := by decide +kernel
theorem dX7_outputAt_29 : decode cX7_outputAt 29 = .ok (.istore_n 2, 1) := by decide +kernel
theorem dX7_outputAt_30 : decode cX7_outputAt 30 = .ok (.iconst 0, 1) := by decide +kernel
theorem dX7_outputAt_31 : decode cX7_outputAt 31 = .ok (.istore_n 3, 1) := by decide +kernel
theorem dX7_outputAt_32 : decode cX7_outputAt 32 = .ok (.aload_n 0, 1) := by decide +kernel
theorem dX7_outputAt_33 : decode cX7_outputAt 33 = .ok (.iconst 0, 1) := by decide +kernel
theorem dX7_outputAt_34 : decode cX7_outputAt 34 = .ok (.invokevirtual 266, 3) := by decide +kernel
theorem dX7_outputAt_37 : decode cX7_outputAt 37 = .ok (.istore 4, 2) := by decide +kernel
theorem dX7_outputAt_39 : decode cX7_outputAt 39 = .ok (.iload_n 2, 1) := by decide +kernel
theorem dX7_outputAt_40 : decode cX7_outputAt 40 = .ok (.iload 4, 2) := by decide +kernel
theorem dX7_outputAt_42 : decode cX7_outputAt 42 = .ok (.invokestatic 269, 3) := by decide +kernel
theorem dX7_outputAt_45 : decode cX7_outputAt 45 = .ok (.iconst 1, 1) := by decide +kernel
theorem dX7_outputAt_46 : decode cX7_outputAt 46 = .ok (.iadd, 1) := by decide +kernel
theorem dX7_outputAt_47 : decode cX7_outputAt 47 = .ok (.if_icmp .le 28, 3) := by decide +kernel
theorem dX7_outputAt_50 : decode cX7_outputAt 50 = .ok (.iload_n 2, 1) := by decide +kernel
theorem dX7_outputAt_51 : decode cX7_outputAt 51 = .ok (.iload 4, 2) := by decide +kernel
theorem dX7_outputAt_53 : decode cX7_outputAt 53 = .ok (.invokestatic 269, 3) := by decide +kernel
theorem dX7_outputAt_56 : decode cX7_outputAt 56 = .ok (.iconst 2, 1) := by decide +kernel
theorem dX7_outputAt_57 : decode cX7_outputAt 57 = .ok (.iadd, 1) := by decide +kernel
theorem dX7_outputAt_58 : decode cX7_outputAt 58 = .ok (.isub, 1) := by decide +kernel
theorem dX7_outputAt_59 : decode cX7_outputAt 59 = .ok (.istore_n 2, 1) := by decide +kernel
theorem dX7_outputAt_60 : decode cX7_outputAt 60 = .ok (.iload_n 3, 1) := by decide +kernel
theorem dX7_outputAt_61 : decode cX7_outputAt 61 = .ok (.iload 4, 2) := by decide +kernel
theorem dX7_outputAt_63 : decode cX7_outputAt 63 = .ok (.iadd, 1) := by decide +kernel
theorem dX7_outputAt_64 : decode cX7_outputAt 64 = .ok (.istore_n 3, 1) := by decide +kernel
theorem dX7_outputAt_65 : decode cX7_outputAt 65 = .ok (.aload_n 0, 1) := by decide +kernel
theorem dX7_outputAt_66 : decode cX7_outputAt 66 = .ok (.iload_n 3, 1) := by decide +kernel
theorem dX7_outputAt_67 : decode cX7_outputAt 67 = .ok (.invokevirtual 266, 3) := by decide +kernel
theorem dX7_outputAt_70 : decode cX7_outputAt 70 = .ok (.istore 4, 2) := by decide +kernel
theorem dX7_outputAt_72 : decode cX7_outputAt 72 = .ok (.goto (-33), 3) := by decide +kernel
theorem dX7_outputAt_75 : decode cX7_outputAt 75 = .ok (.aload_n 0, 1) := by decide +kernel
theorem dX7_outputAt_76 : decode cX7_outputAt 76 = .ok (.getfield 9, 3) := by decide +kernel
theorem dX7_outputAt_79 : decode cX7_outputAt 79 = .ok (.iload_n 3, 1) := by decide +kernel
theorem dX7_outputAt_80 : decode cX7_outputAt 80 = .ok (.baload, 1) := by decide +kernel
theorem dX7_outputAt_81 : decode cX7_outputAt 81 = .ok (.iload 4, 2) := by decide +kernel
theorem dX7_outputAt_83 : decode cX7_outputAt 83 = .ok (.iload_n 2, 1) := by decide +kernel
theorem dX7_outputAt_84 : decode cX7_outputAt 84 = .ok (.invokestatic 275, 3) := by decide +kernel
theorem dX7_outputAt_87 : decode cX7_outputAt 87 = .ok (.ireturn, 1) := by decide +kernel
theorem dX7_isConsistent_0 : decode cX7_isConsistent 0 = .ok (.aload_n 0, 1) := by decide +kernel
theorem dX7_isConsistent_1 : decode cX7_isConsistent 1 = .ok (.iconst 0, 1) := by decide +kernel
theorem dX7_isConsistent_2 : decode cX7_isConsistent 2 = .ok (.putfield 93, 3) := by decide +kernel
theorem dX7_isConsistent_5 : decode cX7_isConsistent 5 = .ok (.iconst 0, 1) := by decide +kernel
theorem dX7_isConsistent_6 : decode cX7_isConsistent 6 = .ok (.istore_n 1, 1) := by decide +kernel
theorem dX7_isConsistent_7 : decode cX7_isConsistent 7 = .ok (.iconst 0, 1) := by decide +kernel
theorem dX7_isConsistent_8 : decode cX7_isConsistent 8 = .ok (.istore_n 2, 1) := by decide +kernel
theorem dX7_isConsistent_9 : decode cX7_isConsistent 9 = .ok (.iload_n 2, 1) := by decide +kernel
theorem dX7_isConsistent_10 : decode cX7_isConsistent 10 = .ok (.aload_n 0, 1) := by decide +kernel
theorem dX7_isConsistent_11 : decode cX7_isConsistent 11 = .ok (.getfield 187, 3) := by decide +kernel
theorem dX7_isConsistent_14 : decode cX7_isConsistent 14 = .ok (.if_icmp .ge 27, 3) := by decide +kernel
theorem dX7_isConsistent_17 : decode cX7_isConsistent 17 = .ok (.iload_n 1, 1) := by decide +kernel
theorem dX7_isConsistent_18 : decode cX7_isConsistent 18 = .ok (.aload_n 0, 1) := by decide +kernel
theorem dX7_isConsistent_19 : decode cX7_isConsistent 19 = .ok (.getfield 9, 3) := by decide +kernel
theorem dX7_isConsistent_22 : decode cX7_isConsistent 22 = .ok (.iload_n 2, 1) := by decide +kernel
theorem dX7_isConsistent_23 : decode cX7_isConsistent 23 = .ok (.baload, 1) := by decide +kernel
theorem dX7_isConsistent_24 : decode cX7_isConsistent 24 = .ok (.iconst 2, 1) := by decide +kernel
theorem dX7_isConsistent_25 : decode cX7_isConsistent 25 = .ok (.if_icmp .ne 7, 3) := by decide +kernel
theorem dX7_isConsistent_28 : decode cX7_isConsistent 28 = .ok (.iconst 1, 1) := by decide +kernel
theorem dX7_isConsistent_29 : decode cX7_isConsistent 29 = .ok (.goto 4, 3) := by decide +kernel
theorem dX7_isConsistent_32 : decode cX7_isConsistent 32 = .ok (.iconst 0, 1) := by decide +kernel
theorem dX7_isConsistent_33 : decode cX7_isConsistent 33 = .ok (.iadd, 1) := by decide +kernel
theorem dX7_isConsistent_34 : decode cX7_isConsistent 34 = .ok (.istore_n 1, 1) := by decide +kernel
theorem dX7_isConsistent_35 : decode cX7_isConsistent 35 = .ok (.iinc 2 1, 3) := by decide +kernel
theorem dX7_isConsistent_38 : decode cX7_isConsistent 38 = .ok (.goto (-29), 3) := by decide +kernel
theorem dX7_isConsistent_41 : decode cX7_isConsistent 41 = .ok (.iload_n 1, 1) := by decide +kernel
theorem dX7_isConsistent_42 : decode cX7_isConsistent 42 = .ok (.aload_n 0, 1) := by decide +kernel
theorem dX7_isConsistent_43 : decode cX7_isConsistent 43 = .ok (.getfield 203, 3) := by decide +kernel
theorem dX7_isConsistent_46 : decode cX7_isConsistent 46 = .ok (.if_icmp .ne 7, 3) := by decide +kernel
theorem dX7_isConsistent_49 : decode cX7_isConsistent 49 = .ok (.iconst 1, 1) := by decide +kernel
theorem dX7_isConsistent_50 : decode cX7_isConsistent 50 = .ok (.goto 4, 3) := by decide +kernel
theorem dX7_isConsistent_53 : decode cX7_isConsistent 53 = .ok (.iconst 0, 1) := by decide +kernel
theorem dX7_isConsistent_54 : decode cX7_isConsistent 54 = .ok (.istore_n 2, 1) := by decide +kernel
theorem dX7_isConsistent_55 : decode cX7_isConsistent 55 = .ok (.iconst 0, 1) := by decide +kernel
theorem dX7_isConsistent_56 : decode cX7_isConsistent 56 = .ok (.istore_n 3, 1) := by decide +kernel
theorem dX7_isConsistent_57 : decode cX7_isConsistent 57 = .ok (.iload_n 3, 1) := by decide +kernel
theorem dX7_isConsistent_58 : decode cX7_isConsistent 58 = .ok (.aload_n 0, 1) := by decide +kernel
theorem dX7_isConsistent_59 : decode cX7_isConsistent 59 = .ok (.getfield 140, 3) := by decide +kernel
theorem dX7_isConsistent_62 : decode cX7_isConsistent 62 = .ok (.if_icmp .ge 43, 3) := by decide +kernel
theorem dX7_isConsistent_65 : decode cX7_isConsistent 65 = .ok (.iload_n 2, 1) := by decide +kernel
theorem dX7_isConsistent_66 : decode cX7_isConsistent 66 = .ok (.ifCond .eq 31, 3) := by decide +kernel
theorem dX7_isConsistent_69 : decode cX7_isConsistent 69 = .ok (.aload_n 0, 1) := by decide +kernel
theorem dX7_isConsistent_70 : decode cX7_isConsistent 70 = .ok (.getfield 35, 3) := by decide +kernel
theorem dX7_isConsistent_73 : decode cX7_isConsistent 73 = .ok (.iload_n 3, 1) := by decide +kernel
theorem dX7_isConsistent_74 : decode cX7_isConsistent 74 = .ok (.baload, 1) := by decide +kernel
theorem dX7_isConsistent_75 : decode cX7_isConsistent 75 = .ok (.ifCond .ne 18, 3) := by decide +kernel
theorem dX7_isConsistent_78 : decode cX7_isConsistent 78 = .ok (.aload_n 0, 1) := by decide +kernel
theorem dX7_isConsistent_79 : decode cX7_isConsistent 79 = .ok (.getfield 81, 3) := by decide +kernel
theorem dX7_isConsistent_82 : decode cX7_isConsistent 82 = .ok (.iload_n 3, 1) := by decide +kernel
theorem dX7_isConsistent_83 : decode cX7_isConsistent 83 = .ok (.iaload, 1) := by decide +kernel
theorem dX7_isConsistent_84 : decode cX7_isConsistent 84 = .ok (.aload_n 0, 1) := by decide +kernel
theorem dX7_isConsistent_85 : decode cX7_isConsistent 85 = .ok (.getfield 84, 3) := by decide +kernel
theorem dX7_isConsistent_88 : decode cX7_isConsistent 88 = .ok (.iload_n 3, 1) := by decide +kernel
theorem dX7_isConsistent_89 : decode cX7_isConsistent 89 = .ok (.iaload, 1) := by decide +kernel
theorem dX7_isConsistent_90 : decode cX7_isConsistent 90 = .ok (.if_icmp .gt 7, 3) := by decide +kernel
theorem dX7_isConsistent_93 : decode cX7_isConsistent 93 = .ok (.iconst 1, 1) := by decide +kernel
theorem dX7_isConsistent_94 : decode cX7_isConsistent 94 = .ok (.goto 4, 3) := by decide +kernel
theorem dX7_isConsistent_97 : decode cX7_isConsistent 97 = .ok (.iconst 0, 1) := by decide +kernel
theorem dX7_isConsistent_98 : decode cX7_isConsistent 98 = .ok (.istore_n 2, 1) := by decide +kernel
theorem dX7_isConsistent_99 : decode cX7_isConsistent 99 = .ok (.iinc 3 1, 3) := by decide +kernel
theorem dX7_isConsistent_102 : decode cX7_isConsistent 102 = .ok (.goto (-45), 3) := by decide +kernel
theorem dX7_isConsistent_105 : decode cX7_isConsistent 105 = .ok (.iload_n 2, 1) := by decide +kernel
theorem dX7_isConsistent_106 : decode cX7_isConsistent 106 = .ok (.ireturn, 1) := by decide +kernel
theorem dL_dayNumber_0 : decode cL_dayNumber 0 = .ok (.aload 4, 2) := by decide +kernel
theorem dL_dayNumber_2 : decode cL_dayNumber 2 = .ok (.iconst 0, 1) := by decide +kernel
theorem dL_dayNumber_3 : decode cL_dayNumber 3 = .ok (.aload_n 0, 1) := by decide +kernel
theorem dL_dayNumber_4 : decode cL_dayNumber 4 = .ok (.iload_n 1, 1) := by decide +kernel
theorem dL_dayNumber_5 : decode cL_dayNumber 5 = .ok (.iload_n 2, 1) := by decide +kernel
theorem dL_dayNumber_6 : decode cL_dayNumber 6 = .ok (.iload_n 3, 1) := by decide +kernel
theorem dL_dayNumber_7 : decode cL_dayNumber 7 = .ok (.invokevirtual 7, 3) := by decide +kernel
theorem dL_dayNumber_10 : decode cL_dayNumber 10 = .ok (.i2l, 1) := by decide +kernel
theorem dL_dayNumber_11 : decode cL_dayNumber 11 = .ok (.lastore, 1) := by decide +kernel
theorem dL_dayNumber_12 : decode cL_dayNumber 12 = .ok (.goto 7, 3) := by decide +kernel
theorem dL_dayNumber_15 : decode cL_dayNumber 15 = .ok (.astore 5, 2) := by decide +kernel
theorem dL_dayNumber_17 : decode cL_dayNumber 17 = .ok (.iconst 1, 1) := by decide +kernel
theorem dL_dayNumber_18 : decode cL_dayNumber 18 = .ok (.ireturn, 1) := by decide +kernel
theorem dL_dayNumber_19 : decode cL_dayNumber 19 = .ok (.iconst 0, 1) := by decide +kernel
theorem dL_dayNumber_20 : decode cL_dayNumber 20 = .ok (.ireturn, 1) := by decide +kernel
theorem dL_dayNumberByMonths_0 : decode cL_dayNumberByMonths 0 = .ok (.aload 4, 2) := by decide +kernel
theorem dL_dayNumberByMonths_2 : decode cL_dayNumberByMonths 2 = .ok (.iconst 0, 1) := by decide +kernel
theorem dL_dayNumberByMonths_3 : decode cL_dayNumberByMonths 3 = .ok (.aload_n 0, 1) := by decide +kernel
theorem dL_dayNumberByMonths_4 : decode cL_dayNumberByMonths 4 = .ok (.iload_n 1, 1) := by decide +kernel
theorem dL_dayNumberByMonths_5 : decode cL_dayNumberByMonths 5 = .ok (.iload_n 2, 1) := by decide +kernel
theorem dL_dayNumberByMonths_6 : decode cL_dayNumberByMonths 6 = .ok (.iload_n 3, 1) := by decide +kernel
theorem dL_dayNumberByMonths_7 : decode cL_dayNumberByMonths 7 = .ok (.invokevirtual 15, 3) := by decide +kernel
theorem dL_dayNumberByMonths_10 : decode cL_dayNumberByMonths 10 = .ok (.i2l, 1) := by decide +kernel
theorem dL_dayNumberByMonths_11 : decode cL_dayNumberByMonths 11 = .ok (.lastore, 1) := by decide +kernel
theorem dL_dayNumberByMonths_12 : decode cL_dayNumberByMonths 12 = .ok (.goto 7, 3) := by decide +kernel
theorem dL_dayNumberByMonths_15 : decode cL_dayNumberByMonths 15 = .ok (.astore 5, 2) := by decide +kernel
theorem dL_dayNumberByMonths_17 : decode cL_dayNumberByMonths 17 = .ok (.iconst 1, 1) := by decide +kernel
theorem dL_dayNumberByMonths_18 : decode cL_dayNumberByMonths 18 = .ok (.ireturn, 1) := by decide +kernel
theorem dL_dayNumberByMonths_19 : decode cL_dayNumberByMonths 19 = .ok (.iconst 0, 1) := by decide +kernel
theorem dL_dayNumberByMonths_20 : decode cL_dayNumberByMonths 20 = .ok (.ireturn, 1) := by decide +kernel
theorem dL_yearOf_0 : decode cL_yearOf 0 = .ok (.aload_n 2, 1) := by decide +kernel
theorem dL_yearOf_1 : decode cL_yearOf 1 = .ok (.iconst 0, 1) := by decide +kernel
theorem dL_yearOf_2 : decode cL_yearOf 2 = .ok (.aload_n 0, 1) := by decide +kernel
theorem dL_yearOf_3 : decode cL_yearOf 3 = .ok (.iload_n 1, 1) := by decide +kernel
theorem dL_yearOf_4 : decode cL_yearOf 4 = .ok (.invokevirtual 18, 3) := by decide +kernel
theorem dL_yearOf_7 : decode cL_yearOf 7 = .ok (.i2l, 1) := by decide +kernel
theorem dL_yearOf_8 : decode cL_yearOf 8 = .ok (.lastore, 1) := by decide +kernel
theorem dL_yearOf_9 : decode cL_yearOf 9 = .ok (.goto 6, 3) := by decide +kernel
theorem dL_yearOf_12 : decode cL_yearOf 12 = .ok (.astore_n 3, 1) := by decide +kernel
theorem dL_yearOf_13 : decode cL_yearOf 13 = .ok (.iconst 1, 1) := by decide +kernel
theorem dL_yearOf_14 : decode cL_yearOf 14 = .ok (.ireturn, 1) := by decide +kernel
theorem dL_yearOf_15 : decode cL_yearOf 15 = .ok (.iconst 0, 1) := by decide +kernel
theorem dL_yearOf_16 : decode cL_yearOf 16 = .ok (.ireturn, 1) := by decide +kernel
theorem dL_monthOf_0 : decode cL_monthOf 0 = .ok (.aload_n 2, 1) := by decide +kernel
theorem dL_monthOf_1 : decode cL_monthOf 1 = .ok (.iconst 0, 1) := by decide +kernel
theorem dL_monthOf_2 : decode cL_monthOf 2 = .ok (.aload_n 0, 1) := by decide +kernel
theorem dL_monthOf_3 : decode cL_monthOf 3 = .ok (.iload_n 1, 1) := by decide +kernel
theorem dL_monthOf_4 : decode cL_monthOf 4 = .ok (.invokevirtual 22, 3) := by decide +kernel
theorem dL_monthOf_7 : decode cL_monthOf 7 = .ok (.i2l, 1) := by decide +kernel
theorem dL_monthOf_8 : decode cL_monthOf 8 = .ok (.lastore, 1) := by decide +kernel
theorem dL_monthOf_9 : decode cL_monthOf 9 = .ok (.goto 6, 3) := by decide +kernel
theorem dL_monthOf_12 : decode cL_monthOf 12 = .ok (.astore_n 3, 1) := by decide +kernel
theorem dL_monthOf_13 : decode cL_monthOf 13 = .ok (.iconst 1, 1) := by decide +kernel
theorem dL_monthOf_14 : decode cL_monthOf 14 = .ok (.ireturn, 1) := by decide +kernel
theorem dL_monthOf_15 : decode cL_monthOf 15 = .ok (.iconst 0, 1) := by decide +kernel
theorem dL_monthOf_16 : decode cL_monthOf 16 = .ok (.ireturn, 1) := by decide +kernel
theorem dL_dayOfMonth_0 : decode cL_dayOfMonth 0 = .ok (.aload_n 2, 1) := by decide +kernel
theorem dL_dayOfMonth_1 : decode cL_dayOfMonth 1 = .ok (.iconst 0, 1) := by decide +kernel
theorem dL_dayOfMonth_2 : decode cL_dayOfMonth 2 = .ok (.aload_n 0, 1) := by decide +kernel
theorem dL_dayOfMonth_3 : decode cL_dayOfMonth 3 = .ok (.iload_n 1, 1) := by decide +kernel
theorem dL_dayOfMonth_4 : decode cL_dayOfMonth 4 = .ok (.invokevirtual 25, 3) := by decide +kernel
theorem dL_dayOfMonth_7 : decode cL_dayOfMonth 7 = .ok (.i2l, 1) := by decide +kernel
theorem dL_dayOfMonth_8 : decode cL_dayOfMonth 8 = .ok (.lastore, 1) := by decide +kernel
theorem dL_dayOfMonth_9 : decode cL_dayOfMonth 9 = .ok (.goto 6, 3) := by decide +kernel
theorem dL_dayOfMonth_12 : decode cL_dayOfMonth 12 = .ok (.astore_n 3, 1) := by decide +kernel
theorem dL_dayOfMonth_13 : decode cL_dayOfMonth 13 = .ok (.iconst 1, 1) := by decide +kernel
theorem dL_dayOfMonth_14 : decode cL_dayOfMonth 14 = .ok (.ireturn, 1) := by decide +kernel
theorem dL_dayOfMonth_15 : decode cL_dayOfMonth 15 = .ok (.iconst 0, 1) := by decide +kernel
theorem dL_dayOfMonth_16 : decode cL_dayOfMonth 16 = .ok (.ireturn, 1) := by decide +kernel
theorem dL_monthsAfter_0 : decode cL_monthsAfter 0 = .ok (.aload_n 3, 1) := by decide +kernel
theorem dL_monthsAfter_1 : decode cL_monthsAfter 1 = .ok (.iconst 0, 1) := by decide +kernel
theorem dL_monthsAfter_2 : decode cL_monthsAfter 2 = .ok (.aload_n 0, 1) := by decide +kernel
theorem dL_monthsAfter_3 : decode cL_monthsAfter 3 = .ok (.iload_n 1, 1) := by decide +kernel
theorem dL_monthsAfter_4 : decode cL_monthsAfter 4 = .ok (.iload_n 2, 1) := by decide +kernel
theorem dL_monthsAfter_5 : decode cL_monthsAfter 5 = .ok (.invokevirtual 28, 3) := by decide +kernel
theorem dL_monthsAfter_8 : decode cL_monthsAfter 8 = .ok (.i2l, 1) := by decide +kernel
theorem dL_monthsAfter_9 : decode cL_monthsAfter 9 = .ok (.lastore, 1) := by decide +kernel
theorem dL_monthsAfter_10 : decode cL_monthsAfter 10 = .ok (.goto 7, 3) := by decide +kernel
theorem dL_monthsAfter_13 : decode cL_monthsAfter 13 = .ok (.astore 4, 2) := by decide +kernel
theorem dL_monthsAfter_15 : decode cL_monthsAfter 15 = .ok (.iconst 1, 1) := by decide +kernel
theorem dL_monthsAfter_16 : decode cL_monthsAfter 16 = .ok (.ireturn, 1) := by decide +kernel
theorem dL_monthsAfter_17 : decode cL_monthsAfter 17 = .ok (.iconst 0, 1) := by decide +kernel
theorem dL_monthsAfter_18 : decode cL_monthsAfter 18 = .ok (.ireturn, 1) := by decide +kernel
theorem dL_advance_0 : decode cL_advance 0 = .ok (.aload_n 2, 1) := by decide +kernel
theorem dL_advance_1 : decode cL_advance 1 = .ok (.iconst 0, 1) := by decide +kernel
theorem dL_advance_2 : decode cL_advance 2 = .ok (.aload_n 0, 1) := by decide +kernel
theorem dL_advance_3 : decode cL_advance 3 = .ok (.iload_n 1, 1) := by decide +kernel
theorem dL_advance_4 : decode cL_advance 4 = .ok (.invokevirtual 32, 3) := by decide +kernel
theorem dL_advance_7 : decode cL_advance 7 = .ok (.i2l, 1) := by decide +kernel
theorem dL_advance_8 : decode cL_advance 8 = .ok (.lastore, 1) := by decide +kernel
theorem dL_advance_9 : decode cL_advance 9 = .ok (.goto 9, 3) := by decide +kernel
theorem dL_advance_12 : decode cL_advance 12 = .ok (.astore_n 3, 1) := by decide +kernel
theorem dL_advance_13 : decode cL_advance 13 = .ok (.iconst 1, 1) := by decide +kernel
theorem dL_advance_14 : decode cL_advance 14 = .ok (.ireturn, 1) := by decide +kernel
theorem dL_advance_15 : decode cL_advance 15 = .ok (.astore_n 3, 1) := by decide +kernel
theorem dL_advance_16 : decode cL_advance 16 = .ok (.iconst 2, 1) := by decide +kernel
theorem dL_advance_17 : decode cL_advance 17 = .ok (.ireturn, 1) := by decide +kernel
theorem dL_advance_18 : decode cL_advance 18 = .ok (.iconst 0, 1) := by decide +kernel
theorem dL_advance_19 : decode cL_advance 19 = .ok (.ireturn, 1) := by decide +kernel
theorem dL_impose_0 : decode cL_impose 0 = .ok (.aload 4, 2) := by decide +kernel
theorem dL_impose_2 : decode cL_impose 2 = .ok (.iconst 0, 1) := by decide +kernel
theorem dL_impose_3 : decode cL_impose 3 = .ok (.aload_n 0, 1) := by decide +kernel
theorem dL_impose_4 : decode cL_impose 4 = .ok (.iload_n 1, 1) := by decide +kernel
theorem dL_impose_5 : decode cL_impose 5 = .ok (.iload_n 2, 1) := by decide +kernel
theorem dL_impose_6 : decode cL_impose 6 = .ok (.iload_n 3, 1) := by decide +kernel
theorem dL_impose_7 : decode cL_impose 7 = .ok (.invokevirtual 37, 3) := by decide +kernel
theorem dL_impose_10 : decode cL_impose 10 = .ok (.i2l, 1) := by decide +kernel
theorem dL_impose_11 : decode cL_impose 11 = .ok (.lastore, 1) := by decide +kernel
theorem dL_impose_12 : decode cL_impose 12 = .ok (.goto 11, 3) := by decide +kernel
theorem dL_impose_15 : decode cL_impose 15 = .ok (.astore 5, 2) := by decide +kernel
theorem dL_impose_17 : decode cL_impose 17 = .ok (.iconst 1, 1) := by decide +kernel
theorem dL_impose_18 : decode cL_impose 18 = .ok (.ireturn, 1) := by decide +kernel
theorem dL_impose_19 : decode cL_impose 19 = .ok (.astore 5, 2) := by decide +kernel
theorem dL_impose_21 : decode cL_impose 21 = .ok (.iconst 2, 1) := by decide +kernel
theorem dL_impose_22 : decode cL_impose 22 = .ok (.ireturn, 1) := by decide +kernel
theorem dL_impose_23 : decode cL_impose 23 = .ok (.iconst 0, 1) := by decide +kernel
theorem dL_impose_24 : decode cL_impose 24 = .ok (.ireturn, 1) := by decide +kernel
theorem dL_imposeConsecutive_0 : decode cL_imposeConsecutive 0 = .ok (.aload 5, 2) := by decide +kernel
theorem dL_imposeConsecutive_2 : decode cL_imposeConsecutive 2 = .ok (.iconst 0, 1) := by decide +kernel
theorem dL_imposeConsecutive_3 : decode cL_imposeConsecutive 3 = .ok (.aload_n 0, 1) := by decide +kernel
theorem dL_imposeConsecutive_4 : decode cL_imposeConsecutive 4 = .ok (.iload_n 1, 1) := by decide +kernel
theorem dL_imposeConsecutive_5 : decode cL_imposeConsecutive 5 = .ok (.iload_n 2, 1) := by decide +kernel
theorem dL_imposeConsecutive_6 : decode cL_imposeConsecutive 6 = .ok (.iload_n 3, 1) := by decide +kernel
theorem dL_imposeConsecutive_7 : decode cL_imposeConsecutive 7 = .ok (.iload 4, 2) := by decide +kernel
theorem dL_imposeConsecutive_9 : decode cL_imposeConsecutive 9 = .ok (.invokevirtual 40, 3) := by decide +kernel
theorem dL_imposeConsecutive_12 : decode cL_imposeConsecutive 12 = .ok (.i2l, 1) := by decide +kernel
theorem dL_imposeConsecutive_13 : decode cL_imposeConsecutive 13 = .ok (.lastore, 1) := by decide +kernel
theorem dL_imposeConsecutive_14 : decode cL_imposeConsecutive 14 = .ok (.goto 15, 3) := by decide +kernel
theorem dL_imposeConsecutive_17 : decode cL_imposeConsecutive 17 = .ok (.astore 6, 2) := by decide +kernel
theorem dL_imposeConsecutive_19 : decode cL_imposeConsecutive 19 = .ok (.iconst 1, 1) := by decide +kernel
theorem dL_imposeConsecutive_20 : decode cL_imposeConsecutive 20 = .ok (.ireturn, 1) := by decide +kernel
theorem dL_imposeConsecutive_21 : decode cL_imposeConsecutive 21 = .ok (.astore 6, 2) := by decide +kernel
theorem dL_imposeConsecutive_23 : decode cL_imposeConsecutive 23 = .ok (.iconst 2, 1) := by decide +kernel
theorem dL_imposeConsecutive_24 : decode cL_imposeConsecutive 24 = .ok (.ireturn, 1) := by decide +kernel
theorem dL_imposeConsecutive_25 : decode cL_imposeConsecutive 25 = .ok (.astore 6, 2) := by decide +kernel
theorem dL_imposeConsecutive_27 : decode cL_imposeConsecutive 27 = .ok (.iconst 3, 1) := by decide +kernel
theorem dL_imposeConsecutive_28 : decode cL_imposeConsecutive 28 = .ok (.ireturn, 1) := by decide +kernel
theorem dL_imposeConsecutive_29 : decode cL_imposeConsecutive 29 = .ok (.iconst 0, 1) := by decide +kernel
theorem dL_imposeConsecutive_30 : decode cL_imposeConsecutive 30 = .ok (.ireturn, 1) := by decide +kernel
theorem dL_addRemand_0 : decode cL_addRemand 0 = .ok (.aload 4, 2) := by decide +kernel
theorem dL_addRemand_2 : decode cL_addRemand 2 = .ok (.iconst 0, 1) := by decide +kernel
theorem dL_addRemand_3 : decode cL_addRemand 3 = .ok (.aload_n 0, 1) := by decide +kernel
theorem dL_addRemand_4 : decode cL_addRemand 4 = .ok (.iload_n 1, 1) := by decide +kernel
theorem dL_addRemand_5 : decode cL_addRemand 5 = .ok (.iload_n 2, 1) := by decide +kernel
theorem dL_addRemand_6 : decode cL_addRemand 6 = .ok (.iload_n 3, 1) := by decide +kernel
theorem dL_addRemand_7 : decode cL_addRemand 7 = .ok (.invokevirtual 46, 3) := by decide +kernel
theorem dL_addRemand_10 : decode cL_addRemand 10 = .ok (.i2l, 1) := by decide +kernel
theorem dL_addRemand_11 : decode cL_addRemand 11 = .ok (.lastore, 1) := by decide +kernel
theorem dL_addRemand_12 : decode cL_addRemand 12 = .ok (.goto 15, 3) := by decide +kernel
theorem dL_addRemand_15 : decode cL_addRemand 15 = .ok (.astore 5, 2) := by decide +kernel
theorem dL_addRemand_17 : decode cL_addRemand 17 = .ok (.iconst 1, 1) := by decide +kernel
theorem dL_addRemand_18 : decode cL_addRemand 18 = .ok (.ireturn, 1) := by decide +kernel
theorem dL_addRemand_19 : decode cL_addRemand 19 = .ok (.astore 5, 2) := by decide +kernel
theorem dL_addRemand_21 : decode cL_addRemand 21 = .ok (.iconst 2, 1) := by decide +kernel
theorem dL_addRemand_22 : decode cL_addRemand 22 = .ok (.ireturn, 1) := by decide +kernel
theorem dL_addRemand_23 : decode cL_addRemand 23 = .ok (.astore 5, 2) := by decide +kernel
theorem dL_addRemand_25 : decode cL_addRemand 25 = .ok (.iconst 3, 1) := by decide +kernel
theorem dL_addRemand_26 : decode cL_addRemand 26 = .ok (.ireturn, 1) := by decide +kernel
theorem dL_addRemand_27 : decode cL_addRemand 27 = .ok (.iconst 0, 1) := by decide +kernel
theorem dL_addRemand_28 : decode cL_addRemand 28 = .ok (.ireturn, 1) := by decide +kernel
theorem dL_quash_0 : decode cL_quash 0 = .ok (.aload_n 2, 1) := by decide +kernel
theorem dL_quash_1 : decode cL_quash 1 = .ok (.iconst 0, 1) := by decide +kernel
theorem dL_quash_2 : decode cL_quash 2 = .ok (.aload_n 0, 1) := by decide +kernel
theorem dL_quash_3 : decode cL_quash 3 = .ok (.iload_n 1, 1) := by decide +kernel
theorem dL_quash_4 : decode cL_quash 4 = .ok (.invokevirtual 49, 3) := by decide +kernel
theorem dL_quash_7 : decode cL_quash 7 = .ok (.i2l, 1) := by decide +kernel
theorem dL_quash_8 : decode cL_quash 8 = .ok (.lastore, 1) := by decide +kernel
theorem dL_quash_9 : decode cL_quash 9 = .ok (.goto 9, 3) := by decide +kernel
theorem dL_quash_12 : decode cL_quash 12 = .ok (.astore_n 3, 1) := by decide +kernel
theorem dL_quash_13 : decode cL_quash 13 = .ok (.iconst 1, 1) := by decide +kernel
theorem dL_quash_14 : decode cL_quash 14 = .ok (.ireturn, 1) := by decide +kernel
theorem dL_quash_15 : decode cL_quash 15 = .ok (.astore_n 3, 1) := by decide +kernel
theorem dL_quash_16 : decode cL_quash 16 = .ok (.iconst 2, 1) := by decide +kernel
theorem dL_quash_17 : decode cL_quash 17 = .ok (.ireturn, 1) := by decide +kernel
theorem dL_quash_18 : decode cL_quash 18 = .ok (.iconst 0, 1) := by decide +kernel
theorem dL_quash_19 : decode cL_quash 19 = .ok (.ireturn, 1) := by decide +kernel
theorem dL_award_0 : decode cL_award 0 = .ok (.aload_n 2, 1) := by decide +kernel
theorem dL_award_1 : decode cL_award 1 = .ok (.iconst 0, 1) := by decide +kernel
theorem dL_award_2 : decode cL_award 2 = .ok (.aload_n 0, 1) := by decide +kernel
theorem dL_award_3 : decode cL_award 3 = .ok (.iload_n 1, 1) := by decide +kernel
theorem dL_award_4 : decode cL_award 4 = .ok (.invokevirtual 52, 3) := by decide +kernel
theorem dL_award_7 : decode cL_award 7 = .ok (.i2l, 1) := by decide +kernel
theorem dL_award_8 : decode cL_award 8 = .ok (.lastore, 1) := by decide +kernel
theorem dL_award_9 : decode cL_award 9 = .ok (.goto 9, 3) := by decide +kernel
theorem dL_award_12 : decode cL_award 12 = .ok (.astore_n 3, 1) := by decide +kernel
theorem dL_award_13 : decode cL_award 13 = .ok (.iconst 1, 1) := by decide +kernel
theorem dL_award_14 : decode cL_award 14 = .ok (.ireturn, 1) := by decide +kernel
theorem dL_award_15 : decode cL_award 15 = .ok (.astore_n 3, 1) := by decide +kernel
theorem dL_award_16 : decode cL_award 16 = .ok (.iconst 2, 1) := by decide +kernel
theorem dL_award_17 : decode cL_award 17 = .ok (.ireturn, 1) := by decide +kernel
theorem dL_award_18 : decode cL_award 18 = .ok (.iconst 0, 1) := by decide +kernel
theorem dL_award_19 : decode cL_award 19 = .ok (.ireturn, 1) := by decide +kernel
theorem dL_giveBack_0 : decode cL_giveBack 0 = .ok (.aload_n 3, 1) := by decide +kernel
theorem dL_giveBack_1 : decode cL_giveBack 1 = .ok (.iconst 0, 1) := by decide +kernel
theorem dL_giveBack_2 : decode cL_giveBack 2 = .ok (.aload_n 0, 1) := by decide +kernel
theorem dL_giveBack_3 : decode cL_giveBack 3 = .ok (.iload_n 1, 1) := by decide +kernel
theorem dL_giveBack_4 : decode cL_giveBack 4 = .ok (.iload_n 2, 1) := by decide +kernel
theorem dL_giveBack_5 : decode cL_giveBack 5 = .ok (.invokevirtual 55, 3) := by decide +kernel
theorem dL_giveBack_8 : decode cL_giveBack 8 = .ok (.i2l, 1) := by decide +kernel
theorem dL_giveBack_9 : decode cL_giveBack 9 = .ok (.lastore, 1) := by decide +kernel
theorem dL_giveBack_10 : decode cL_giveBack 10 = .ok (.goto 11, 3) := by decide +kernel
theorem dL_giveBack_13 : decode cL_giveBack 13 = .ok (.astore 4, 2) := by decide +kernel
theorem dL_giveBack_15 : decode cL_giveBack 15 = .ok (.iconst 1, 1) := by decide +kernel
theorem dL_giveBack_16 : decode cL_giveBack 16 = .ok (.ireturn, 1) := by decide +kernel
theorem dL_giveBack_17 : decode cL_giveBack 17 = .ok (.astore 4, 2) := by decide +kernel
theorem dL_giveBack_19 : decode cL_giveBack 19 = .ok (.iconst 2, 1) := by decide +kernel
theorem dL_giveBack_20 : decode cL_giveBack 20 = .ok (.ireturn, 1) := by decide +kernel
theorem dL_giveBack_21 : decode cL_giveBack 21 = .ok (.iconst 0, 1) := by decide +kernel
theorem dL_giveBack_22 : decode cL_giveBack 22 = .ok (.ireturn, 1) := by decide +kernel
theorem dL_recall_0 : decode cL_recall 0 = .ok (.aload_n 2, 1) := by decide +kernel
theorem dL_recall_1 : decode cL_recall 1 = .ok (.iconst 0, 1) := by decide +kernel
theorem dL_recall_2 : decode cL_recall 2 = .ok (.aload_n 0, 1) := by decide +kernel
theorem dL_recall_3 : decode cL_recall 3 = .ok (.iload_n 1, 1) := by decide +kernel
theorem dL_recall_4 : decode cL_recall 4 = .ok (.invokevirtual 58, 3) := by decide +kernel
theorem dL_recall_7 : decode cL_recall 7 = .ok (.i2l, 1) := by decide +kernel
theorem dL_recall_8 : decode cL_recall 8 = .ok (.lastore, 1) := by decide +kernel
theorem dL_recall_9 : decode cL_recall 9 = .ok (.goto 9, 3) := by decide +kernel
theorem dL_recall_12 : decode cL_recall 12 = .ok (.astore_n 3, 1) := by decide +kernel
theorem dL_recall_13 : decode cL_recall 13 = .ok (.iconst 1, 1) := by decide +kernel
theorem dL_recall_14 : decode cL_recall 14 = .ok (.ireturn, 1) := by decide +kernel
theorem dL_recall_15 : decode cL_recall 15 = .ok (.astore_n 3, 1) := by decide +kernel
theorem dL_recall_16 : decode cL_recall 16 = .ok (.iconst 2, 1) := by decide +kernel
theorem dL_recall_17 : decode cL_recall 17 = .ok (.ireturn, 1) := by decide +kernel
theorem dL_recall_18 : decode cL_recall 18 = .ok (.iconst 0, 1) := by decide +kernel
theorem dL_recall_19 : decode cL_recall 19 = .ok (.ireturn, 1) := by decide +kernel
theorem dL_kindOf_0 : decode cL_kindOf 0 = .ok (.aload_n 2, 1) := by decide +kernel
theorem dL_kindOf_1 : decode cL_kindOf 1 = .ok (.iconst 0, 1) := by decide +kernel
theorem dL_kindOf_2 : decode cL_kindOf 2 = .ok (.aload_n 0, 1) := by decide +kernel
theorem dL_kindOf_3 : decode cL_kindOf 3 = .ok (.iload_n 1, 1) := by decide +kernel
theorem dL_kindOf_4 : decode cL_kindOf 4 = .ok (.invokevirtual 61, 3) := by decide +kernel
theorem dL_kindOf_7 : decode cL_kindOf 7 = .ok (.i2l, 1) := by decide +kernel
theorem dL_kindOf_8 : decode cL_kindOf 8 = .ok (.lastore, 1) := by decide +kernel
theorem dL_kindOf_9 : decode cL_kindOf 9 = .ok (.goto 6, 3) := by decide +kernel
theorem dL_kindOf_12 : decode cL_kindOf 12 = .ok (.astore_n 3, 1) := by decide +kernel
theorem dL_kindOf_13 : decode cL_kindOf 13 = .ok (.iconst 1, 1) := by decide +kernel
theorem dL_kindOf_14 : decode cL_kindOf 14 = .ok (.ireturn, 1) := by decide +kernel
theorem dL_kindOf_15 : decode cL_kindOf 15 = .ok (.iconst 0, 1) := by decide +kernel
theorem dL_kindOf_16 : decode cL_kindOf 16 = .ok (.ireturn, 1) := by decide +kernel
theorem dL_isQuashed_0 : decode cL_isQuashed 0 = .ok (.aload_n 2, 1) := by decide +kernel
theorem dL_isQuashed_1 : decode cL_isQuashed 1 = .ok (.iconst 0, 1) := by decide +kernel
theorem dL_isQuashed_2 : decode cL_isQuashed 2 = .ok (.aload_n 0, 1) := by decide +kernel
theorem dL_isQuashed_3 : decode cL_isQuashed 3 = .ok (.iload_n 1, 1) := by decide +kernel
theorem dL_isQuashed_4 : decode cL_isQuashed 4 = .ok (.invokevirtual 64, 3) := by decide +kernel
theorem dL_isQuashed_7 : decode cL_isQuashed 7 = .ok (.ifCond .eq 7, 3) := by decide +kernel
theorem dL_isQuashed_10 : decode cL_isQuashed 10 = .ok (.lconst 1, 1) := by decide +kernel
theorem dL_isQuashed_11 : decode cL_isQuashed 11 = .ok (.goto 4, 3) := by decide +kernel
theorem dL_isQuashed_14 : decode cL_isQuashed 14 = .ok (.lconst 0, 1) := by decide +kernel
theorem dL_isQuashed_15 : decode cL_isQuashed 15 = .ok (.lastore, 1) := by decide +kernel
theorem dL_isQuashed_16 : decode cL_isQuashed 16 = .ok (.goto 6, 3) := by decide +kernel
theorem dL_isQuashed_19 : decode cL_isQuashed 19 = .ok (.astore_n 3, 1) := by decide +kernel
theorem dL_isQuashed_20 : decode cL_isQuashed 20 = .ok (.iconst 1, 1) := by decide +kernel
theorem dL_isQuashed_21 : decode cL_isQuashed 21 = .ok (.ireturn, 1) := by decide +kernel
theorem dL_isQuashed_22 : decode cL_isQuashed 22 = .ok (.iconst 0, 1) := by decide +kernel
theorem dL_isQuashed_23 : decode cL_isQuashed 23 = .ok (.ireturn, 1) := by decide +kernel
theorem dL_parentOf_0 : decode cL_parentOf 0 = .ok (.aload_n 2, 1) := by decide +kernel
theorem dL_parentOf_1 : decode cL_parentOf 1 = .ok (.iconst 0, 1) := by decide +kernel
theorem dL_parentOf_2 : decode cL_parentOf 2 = .ok (.aload_n 0, 1) := by decide +kernel
theorem dL_parentOf_3 : decode cL_parentOf 3 = .ok (.iload_n 1, 1) := by decide +kernel
theorem dL_parentOf_4 : decode cL_parentOf 4 = .ok (.invokevirtual 68, 3) := by decide +kernel
theorem dL_parentOf_7 : decode cL_parentOf 7 = .ok (.i2l, 1) := by decide +kernel
theorem dL_parentOf_8 : decode cL_parentOf 8 = .ok (.lastore, 1) := by decide +kernel
theorem dL_parentOf_9 : decode cL_parentOf 9 = .ok (.goto 12, 3) := by decide +kernel
theorem dL_parentOf_12 : decode cL_parentOf 12 = .ok (.astore_n 3, 1) := by decide +kernel
theorem dL_parentOf_13 : decode cL_parentOf 13 = .ok (.iconst 1, 1) := by decide +kernel
theorem dL_parentOf_14 : decode cL_parentOf 14 = .ok (.ireturn, 1) := by decide +kernel
theorem dL_parentOf_15 : decode cL_parentOf 15 = .ok (.astore_n 3, 1) := by decide +kernel
theorem dL_parentOf_16 : decode cL_parentOf 16 = .ok (.iconst 2, 1) := by decide +kernel
theorem dL_parentOf_17 : decode cL_parentOf 17 = .ok (.ireturn, 1) := by decide +kernel
theorem dL_parentOf_18 : decode cL_parentOf 18 = .ok (.astore_n 3, 1) := by decide +kernel
theorem dL_parentOf_19 : decode cL_parentOf 19 = .ok (.iconst 3, 1) := by decide +kernel
theorem dL_parentOf_20 : decode cL_parentOf 20 = .ok (.ireturn, 1) := by decide +kernel
theorem dL_parentOf_21 : decode cL_parentOf 21 = .ok (.iconst 0, 1) := by decide +kernel
theorem dL_parentOf_22 : decode cL_parentOf 22 = .ok (.ireturn, 1) := by decide +kernel
theorem dL_chainLength_0 : decode cL_chainLength 0 = .ok (.aload_n 2, 1) := by decide +kernel
theorem dL_chainLength_1 : decode cL_chainLength 1 = .ok (.iconst 0, 1) := by decide +kernel
theorem dL_chainLength_2 : decode cL_chainLength 2 = .ok (.aload_n 0, 1) := by decide +kernel
theorem dL_chainLength_3 : decode cL_chainLength 3 = .ok (.iload_n 1, 1) := by decide +kernel
theorem dL_chainLength_4 : decode cL_chainLength 4 = .ok (.invokevirtual 73, 3) := by decide +kernel
theorem dL_chainLength_7 : decode cL_chainLength 7 = .ok (.i2l, 1) := by decide +kernel
theorem dL_chainLength_8 : decode cL_chainLength 8 = .ok (.lastore, 1) := by decide +kernel
theorem dL_chainLength_9 : decode cL_chainLength 9 = .ok (.goto 9, 3) := by decide +kernel
theorem dL_chainLength_12 : decode cL_chainLength 12 = .ok (.astore_n 3, 1) := by decide +kernel
theorem dL_chainLength_13 : decode cL_chainLength 13 = .ok (.iconst 1, 1) := by decide +kernel
theorem dL_chainLength_14 : decode cL_chainLength 14 = .ok (.ireturn, 1) := by decide +kernel
theorem dL_chainLength_15 : decode cL_chainLength 15 = .ok (.astore_n 3, 1) := by decide +kernel
theorem dL_chainLength_16 : decode cL_chainLength 16 = .ok (.iconst 2, 1) := by decide +kernel
theorem dL_chainLength_17 : decode cL_chainLength 17 = .ok (.ireturn, 1) := by decide +kernel
theorem dL_chainLength_18 : decode cL_chainLength 18 = .ok (.iconst 0, 1) := by decide +kernel
theorem dL_chainLength_19 : decode cL_chainLength 19 = .ok (.ireturn, 1) := by decide +kernel
theorem dL_descendants_0 : decode cL_descendants 0 = .ok (.aload_n 2, 1) := by decide +kernel
theorem dL_descendants_1 : decode cL_descendants 1 = .ok (.iconst 0, 1) := by decide +kernel
theorem dL_descendants_2 : decode cL_descendants 2 = .ok (.aload_n 0, 1) := by decide +kernel
theorem dL_descendants_3 : decode cL_descendants 3 = .ok (.iload_n 1, 1) := by decide +kernel
theorem dL_descendants_4 : decode cL_descendants 4 = .ok (.invokevirtual 76, 3) := by decide +kernel
theorem dL_descendants_7 : decode cL_descendants 7 = .ok (.i2l, 1) := by decide +kernel
theorem dL_descendants_8 : decode cL_descendants 8 = .ok (.lastore, 1) := by decide +kernel
theorem dL_descendants_9 : decode cL_descendants 9 = .ok (.goto 9, 3) := by decide +kernel
theorem dL_descendants_12 : decode cL_descendants 12 = .ok (.astore_n 3, 1) := by decide +kernel
theorem dL_descendants_13 : decode cL_descendants 13 = .ok (.iconst 1, 1) := by decide +kernel
theorem dL_descendants_14 : decode cL_descendants 14 = .ok (.ireturn, 1) := by decide +kernel
theorem dL_descendants_15 : decode cL_descendants 15 = .ok (.astore_n 3, 1) := by decide +kernel
theorem dL_descendants_16 : decode cL_descendants 16 = .ok (.iconst 2, 1) := by decide +kernel
theorem dL_descendants_17 : decode cL_descendants 17 = .ok (.ireturn, 1) := by decide +kernel
theorem dL_descendants_18 : decode cL_descendants 18 = .ok (.iconst 0, 1) := by decide +kernel
theorem dL_descendants_19 : decode cL_descendants 19 = .ok (.ireturn, 1) := by decide +kernel
theorem dL_start_0 : decode cL_start 0 = .ok (.aload_n 2, 1) := by decide +kernel
theorem dL_start_1 : decode cL_start 1 = .ok (.iconst 0, 1) := by decide +kernel
theorem dL_start_2 : decode cL_start 2 = .ok (.aload_n 0, 1) := by decide +kernel
theorem dL_start_3 : decode cL_start 3 = .ok (.iload_n 1, 1) := by decide +kernel
theorem dL_start_4 : decode cL_start 4 = .ok (.invokevirtual 79, 3) := by decide +kernel
theorem dL_start_7 : decode cL_start 7 = .ok (.i2l, 1) := by decide +kernel
theorem dL_start_8 : decode cL_start 8 = .ok (.lastore, 1) := by decide +kernel
theorem dL_start_9 : decode cL_start 9 = .ok (.goto 9, 3) := by decide +kernel
theorem dL_start_12 : decode cL_start 12 = .ok (.astore_n 3, 1) := by decide +kernel
theorem dL_start_13 : decode cL_start 13 = .ok (.iconst 1, 1) := by decide +kernel
theorem dL_start_14 : decode cL_start 14 = .ok (.ireturn, 1) := by decide +kernel
theorem dL_start_15 : decode cL_start 15 = .ok (.astore_n 3, 1) := by decide +kernel
theorem dL_start_16 : decode cL_start 16 = .ok (.iconst 2, 1) := by decide +kernel
theorem dL_start_17 : decode cL_start 17 = .ok (.ireturn, 1) := by decide +kernel
theorem dL_start_18 : decode cL_start 18 = .ok (.iconst 0, 1) := by decide +kernel
theorem dL_start_19 : decode cL_start 19 = .ok (.ireturn, 1) := by decide +kernel
theorem dL_length_0 : decode cL_length 0 = .ok (.aload_n 2, 1) := by decide +kernel
theorem dL_length_1 : decode cL_length 1 = .ok (.iconst 0, 1) := by decide +kernel
theorem dL_length_2 : decode cL_length 2 = .ok (.aload_n 0, 1) := by decide +kernel
theorem dL_length_3 : decode cL_length 3 = .ok (.iload_n 1, 1) := by decide +kernel
theorem dL_length_4 : decode cL_length 4 = .ok (.invokevirtual 82, 3) := by decide +kernel
theorem dL_length_7 : decode cL_length 7 = .ok (.i2l, 1) := by decide +kernel
theorem dL_length_8 : decode cL_length 8 = .ok (.lastore, 1) := by decide +kernel
theorem dL_length_9 : decode cL_length 9 = .ok (.goto 9, 3) := by decide +kernel
theorem dL_length_12 : decode cL_length 12 = .ok (.astore_n 3, 1) := by decide +kernel
theorem dL_length_13 : decode cL_length 13 = .ok (.iconst 1, 1) := by decide +kernel
theorem dL_length_14 : decode cL_length 14 = .ok (.ireturn, 1) := by decide +kernel
theorem dL_length_15 : decode cL_length 15 = .ok (.astore_n 3, 1) := by decide +kernel
theorem dL_length_16 : decode cL_length 16 = .ok (.iconst 2, 1) := by decide +kernel
theorem dL_length_17 : decode cL_length 17 = .ok (.ireturn, 1) := by decide +kernel
theorem dL_length_18 : decode cL_length 18 = .ok (.iconst 0, 1) := by decide +kernel
theorem dL_length_19 : decode cL_length 19 = .ok (.ireturn, 1) := by decide +kernel
theorem dL_totalLength_0 : decode cL_totalLength 0 = .ok (.aload_n 2, 1) := by decide +kernel
theorem dL_totalLength_1 : decode cL_totalLength 1 = .ok (.iconst 0, 1) := by decide +kernel
theorem dL_totalLength_2 : decode cL_totalLength 2 = .ok (.aload_n 0, 1) := by decide +kernel
theorem dL_totalLength_3 : decode cL_totalLength 3 = .ok (.iload_n 1, 1) := by decide +kernel
theorem dL_totalLength_4 : decode cL_totalLength 4 = .ok (.invokevirtual 85, 3) := by decide +kernel
theorem dL_totalLength_7 : decode cL_totalLength 7 = .ok (.i2l, 1) := by decide +kernel
theorem dL_totalLength_8 : decode cL_totalLength 8 = .ok (.lastore, 1) := by decide +kernel
theorem dL_totalLength_9 : decode cL_totalLength 9 = .ok (.goto 9, 3) := by decide +kernel
theorem dL_totalLength_12 : decode cL_totalLength 12 = .ok (.astore_n 3, 1) := by decide +kernel
theorem dL_totalLength_13 : decode cL_totalLength 13 = .ok (.iconst 1, 1) := by decide +kernel
theorem dL_totalLength_14 : decode cL_totalLength 14 = .ok (.ireturn, 1) := by decide +kernel
theorem dL_totalLength_15 : decode cL_totalLength 15 = .ok (.astore_n 3, 1) := by decide +kernel
theorem dL_totalLength_16 : decode cL_totalLength 16 = .ok (.iconst 2, 1) := by decide +kernel
theorem dL_totalLength_17 : decode cL_totalLength 17 = .ok (.ireturn, 1) := by decide +kernel
theorem dL_totalLength_18 : decode cL_totalLength 18 = .ok (.iconst 0, 1) := by decide +kernel
theorem dL_totalLength_19 : decode cL_totalLength 19 = .ok (.ireturn, 1) := by decide +kernel
theorem dL_custodialPart_0 : decode cL_custodialPart 0 = .ok (.aload_n 2, 1) := by decide +kernel
theorem dL_custodialPart_1 : decode cL_custodialPart 1 = .ok (.iconst 0, 1) := by decide +kernel
theorem dL_custodialPart_2 : decode cL_custodialPart 2 = .ok (.aload_n 0, 1) := by decide +kernel
theorem dL_custodialPart_3 : decode cL_custodialPart 3 = .ok (.iload_n 1, 1) := by decide +kernel
theorem dL_custodialPart_4 : decode cL_custodialPart 4 = .ok (.invokevirtual 88, 3) := by decide +kernel
theorem dL_custodialPart_7 : decode cL_custodialPart 7 = .ok (.i2l, 1) := by decide +kernel
theorem dL_custodialPart_8 : decode cL_custodialPart 8 = .ok (.lastore, 1) := by decide +kernel
theorem dL_custodialPart_9 : decode cL_custodialPart 9 = .ok (.goto 9, 3) := by decide +kernel
theorem dL_custodialPart_12 : decode cL_custodialPart 12 = .ok (.astore_n 3, 1) := by decide +kernel
theorem dL_custodialPart_13 : decode cL_custodialPart 13 = .ok (.iconst 1, 1) := by decide +kernel
theorem dL_custodialPart_14 : decode cL_custodialPart 14 = .ok (.ireturn, 1) := by decide +kernel
theorem dL_custodialPart_15 : decode cL_custodialPart 15 = .ok (.astore_n 3, 1) := by decide +kernel
theorem dL_custodialPart_16 : decode cL_custodialPart 16 = .ok (.iconst 2, 1) := by decide +kernel
theorem dL_custodialPart_17 : decode cL_custodialPart 17 = .ok (.ireturn, 1) := by decide +kernel
theorem dL_custodialPart_18 : decode cL_custodialPart 18 = .ok (.iconst 0, 1) := by decide +kernel
theorem dL_custodialPart_19 : decode cL_custodialPart 19 = .ok (.ireturn, 1) := by decide +kernel
theorem dL_credit_0 : decode cL_credit 0 = .ok (.aload_n 2, 1) := by decide +kernel
theorem dL_credit_1 : decode cL_credit 1 = .ok (.iconst 0, 1) := by decide +kernel
theorem dL_credit_2 : decode cL_credit 2 = .ok (.aload_n 0, 1) := by decide +kernel
theorem dL_credit_3 : decode cL_credit 3 = .ok (.iload_n 1, 1) := by decide +kernel
theorem dL_credit_4 : decode cL_credit 4 = .ok (.invokevirtual 91, 3) := by decide +kernel
theorem dL_credit_7 : decode cL_credit 7 = .ok (.i2l, 1) := by decide +kernel
theorem dL_credit_8 : decode cL_credit 8 = .ok (.lastore, 1) := by decide +kernel
theorem dL_credit_9 : decode cL_credit 9 = .ok (.goto 9, 3) := by decide +kernel
theorem dL_credit_12 : decode cL_credit 12 = .ok (.astore_n 3, 1) := by decide +kernel
theorem dL_credit_13 : decode cL_credit 13 = .ok (.iconst 1, 1) := by decide +kernel
theorem dL_credit_14 : decode cL_credit 14 = .ok (.ireturn, 1) := by decide +kernel
theorem dL_credit_15 : decode cL_credit 15 = .ok (.astore_n 3, 1) := by decide +kernel
theorem dL_credit_16 : decode cL_credit 16 = .ok (.iconst 2, 1) := by decide +kernel
theorem dL_credit_17 : decode cL_credit 17 = .ok (.ireturn, 1) := by decide +kernel
theorem dL_credit_18 : decode cL_credit 18 = .ok (.iconst 0, 1) := by decide +kernel
theorem dL_credit_19 : decode cL_credit 19 = .ok (.ireturn, 1) := by decide +kernel
theorem dL_creditByMerging_0 : decode cL_creditByMerging 0 = .ok (.aload_n 2, 1) := by decide +kernel
theorem dL_creditByMerging_1 : decode cL_creditByMerging 1 = .ok (.iconst 0, 1) := by decide +kernel
theorem dL_creditByMerging_2 : decode cL_creditByMerging 2 = .ok (.aload_n 0, 1) := by decide +kernel
theorem dL_creditByMerging_3 : decode cL_creditByMerging 3 = .ok (.iload_n 1, 1) := by decide +kernel
theorem dL_creditByMerging_4 : decode cL_creditByMerging 4 = .ok (.invokevirtual 94, 3) := by decide +kernel
theorem dL_creditByMerging_7 : decode cL_creditByMerging 7 = .ok (.i2l, 1) := by decide +kernel
theorem dL_creditByMerging_8 : decode cL_creditByMerging 8 = .ok (.lastore, 1) := by decide +kernel
theorem dL_creditByMerging_9 : decode cL_creditByMerging 9 = .ok (.goto 9, 3) := by decide +kernel
theorem dL_creditByMerging_12 : decode cL_creditByMerging 12 = .ok (.astore_n 3, 1) := by decide +kernel
theorem dL_creditByMerging_13 : decode cL_creditByMerging 13 = .ok (.iconst 1, 1) := by decide +kernel
theorem dL_creditByMerging_14 : decode cL_creditByMerging 14 = .ok (.ireturn, 1) := by decide +kernel
theorem dL_creditByMerging_15 : decode cL_creditByMerging 15 = .ok (.astore_n 3, 1) := by decide +kernel
theorem dL_creditByMerging_16 : decode cL_creditByMerging 16 = .ok (.iconst 2, 1) := by decide +kernel
theorem dL_creditByMerging_17 : decode cL_creditByMerging 17 = .ok (.ireturn, 1) := by decide +kernel
theorem dL_creditByMerging_18 : decode cL_creditByMerging 18 = .ok (.iconst 0, 1) := by decide +kernel
theorem dL_creditByMerging_19 : decode cL_creditByMerging 19 = .ok (.ireturn, 1) := by decide +kernel
theorem dL_addedDays_0 : decode cL_addedDays 0 = .ok (.aload_n 2, 1) := by decide +kernel
theorem dL_addedDays_1 : decode cL_addedDays 1 = .ok (.iconst 0, 1) := by decide +kernel
theorem dL_addedDays_2 : decode cL_addedDays 2 = .ok (.aload_n 0, 1) := by decide +kernel
theorem dL_addedDays_3 : decode cL_addedDays 3 = .ok (.iload_n 1, 1) := by decide +kernel
theorem dL_addedDays_4 : decode cL_addedDays 4 = .ok (.invokevirtual 97, 3) := by decide +kernel
theorem dL_addedDays_7 : decode cL_addedDays 7 = .ok (.i2l, 1) := by decide +kernel
theorem dL_addedDays_8 : decode cL_addedDays 8 = .ok (.lastore, 1) := by decide +kernel
theorem dL_addedDays_9 : decode cL_addedDays 9 = .ok (.goto 9, 3) := by decide +kernel
theorem dL_addedDays_12 : decode cL_addedDays 12 = .ok (.astore_n 3, 1) := by decide +kernel
theorem dL_addedDays_13 : decode cL_addedDays 13 = .ok (.iconst 1, 1) := by decide +kernel
theorem dL_addedDays_14 : decode cL_addedDays 14 = .ok (.ireturn, 1) := by decide +kernel
theorem dL_addedDays_15 : decode cL_addedDays 15 = .ok (.astore_n 3, 1) := by decide +kernel
theorem dL_addedDays_16 : decode cL_addedDays 16 = .ok (.iconst 2, 1) := by decide +kernel
theorem dL_addedDays_17 : decode cL_addedDays 17 = .ok (.ireturn, 1) := by decide +kernel
theorem dL_addedDays_18 : decode cL_addedDays 18 = .ok (.iconst 0, 1) := by decide +kernel
theorem dL_addedDays_19 : decode cL_addedDays 19 = .ok (.ireturn, 1) := by decide +kernel
theorem dL_releaseDay_0 : decode cL_releaseDay 0 = .ok (.aload_n 2, 1) := by decide +kernel
theorem dL_releaseDay_1 : decode cL_releaseDay 1 = .ok (.iconst 0, 1) := by decide +kernel
theorem dL_releaseDay_2 : decode cL_releaseDay 2 = .ok (.aload_n 0, 1) := by decide +kernel
theorem dL_releaseDay_3 : decode cL_releaseDay 3 = .ok (.iload_n 1, 1) := by decide +kernel
theorem dL_releaseDay_4 : decode cL_releaseDay 4 = .ok (.invokevirtual 100, 3) := by decide +kernel
theorem dL_releaseDay_7 : decode cL_releaseDay 7 = .ok (.i2l, 1) := by decide +kernel
theorem dL_releaseDay_8 : decode cL_releaseDay 8 = .ok (.lastore, 1) := by decide +kernel
theorem dL_releaseDay_9 : decode cL_releaseDay 9 = .ok (.goto 9, 3) := by decide +kernel
theorem dL_releaseDay_12 : decode cL_releaseDay 12 = .ok (.astore_n 3, 1) := by decide +kernel
theorem dL_releaseDay_13 : decode cL_releaseDay 13 = .ok (.iconst 1, 1) := by decide +kernel
theorem dL_releaseDay_14 : decode cL_releaseDay 14 = .ok (.ireturn, 1) := by decide +kernel
theorem dL_releaseDay_15 : decode cL_releaseDay 15 = .ok (.astore_n 3, 1) := by decide +kernel
theorem dL_releaseDay_16 : decode cL_releaseDay 16 = .ok (.iconst 2, 1) := by decide +kernel
theorem dL_releaseDay_17 : decode cL_releaseDay 17 = .ok (.ireturn, 1) := by decide +kernel
theorem dL_releaseDay_18 : decode cL_releaseDay 18 = .ok (.iconst 0, 1) := by decide +kernel
theorem dL_releaseDay_19 : decode cL_releaseDay 19 = .ok (.ireturn, 1) := by decide +kernel
theorem dL_releaseDayByServing_0 : decode cL_releaseDayByServing 0 = .ok (.aload_n 2, 1) := by decide +kernel
theorem dL_releaseDayByServing_1 : decode cL_releaseDayByServing 1 = .ok (.iconst 0, 1) := by decide +kernel
theorem dL_releaseDayByServing_2 : decode cL_releaseDayByServing 2 = .ok (.aload_n 0, 1) := by decide +kernel
theorem dL_releaseDayByServing_3 : decode cL_releaseDayByServing 3 = .ok (.iload_n 1, 1) := by decide +kernel
theorem dL_releaseDayByServing_4 : decode cL_releaseDayByServing 4 = .ok (.invokevirtual 103, 3) := by decide +kernel
theorem dL_releaseDayByServing_7 : decode cL_releaseDayByServing 7 = .ok (.i2l, 1) := by decide +kernel
theorem dL_releaseDayByServing_8 : decode cL_releaseDayByServing 8 = .ok (.lastore, 1) := by decide +kernel
theorem dL_releaseDayByServing_9 : decode cL_releaseDayByServing 9 = .ok (.goto 9, 3) := by decide +kernel
theorem dL_releaseDayByServing_12 : decode cL_releaseDayByServing 12 = .ok (.astore_n 3, 1) := by decide +kernel
theorem dL_releaseDayByServing_13 : decode cL_releaseDayByServing 13 = .ok (.iconst 1, 1) := by decide +kernel
theorem dL_releaseDayByServing_14 : decode cL_releaseDayByServing 14 = .ok (.ireturn, 1) := by decide +kernel
theorem dL_releaseDayByServing_15 : decode cL_releaseDayByServing 15 = .ok (.astore_n 3, 1) := by decide +kernel
theorem dL_releaseDayByServing_16 : decode cL_releaseDayByServing 16 = .ok (.iconst 2, 1) := by decide +kernel
theorem dL_releaseDayByServing_17 : decode cL_releaseDayByServing 17 = .ok (.ireturn, 1) := by decide +kernel
theorem dL_releaseDayByServing_18 : decode cL_releaseDayByServing 18 = .ok (.iconst 0, 1) := by decide +kernel
theorem dL_releaseDayByServing_19 : decode cL_releaseDayByServing 19 = .ok (.ireturn, 1) := by decide +kernel
theorem dL_endDay_0 : decode cL_endDay 0 = .ok (.aload_n 2, 1) := by decide +kernel
theorem dL_endDay_1 : decode cL_endDay 1 = .ok (.iconst 0, 1) := by decide +kernel
theorem dL_endDay_2 : decode cL_endDay 2 = .ok (.aload_n 0, 1) := by decide +kernel
theorem dL_endDay_3 : decode cL_endDay 3 = .ok (.iload_n 1, 1) := by decide +kernel
theorem dL_endDay_4 : decode cL_endDay 4 = .ok (.invokevirtual 106, 3) := by decide +kernel
theorem dL_endDay_7 : decode cL_endDay 7 = .ok (.i2l, 1) := by decide +kernel
theorem dL_endDay_8 : decode cL_endDay 8 = .ok (.lastore, 1) := by decide +kernel
theorem dL_endDay_9 : decode cL_endDay 9 = .ok (.goto 9, 3) := by decide +kernel
theorem dL_endDay_12 : decode cL_endDay 12 = .ok (.astore_n 3, 1) := by decide +kernel
theorem dL_endDay_13 : decode cL_endDay 13 = .ok (.iconst 1, 1) := by decide +kernel
theorem dL_endDay_14 : decode cL_endDay 14 = .ok (.ireturn, 1) := by decide +kernel
theorem dL_endDay_15 : decode cL_endDay 15 = .ok (.astore_n 3, 1) := by decide +kernel
theorem dL_endDay_16 : decode cL_endDay 16 = .ok (.iconst 2, 1) := by decide +kernel
theorem dL_endDay_17 : decode cL_endDay 17 = .ok (.ireturn, 1) := by decide +kernel
theorem dL_endDay_18 : decode cL_endDay 18 = .ok (.iconst 0, 1) := by decide +kernel
theorem dL_endDay_19 : decode cL_endDay 19 = .ok (.ireturn, 1) := by decide +kernel
theorem dL_lastRelease_0 : decode cL_lastRelease 0 = .ok (.aload_n 1, 1) := by decide +kernel
theorem dL_lastRelease_1 : decode cL_lastRelease 1 = .ok (.iconst 0, 1) := by decide +kernel
theorem dL_lastRelease_2 : decode cL_lastRelease 2 = .ok (.aload_n 0, 1) := by decide +kernel
theorem dL_lastRelease_3 : decode cL_lastRelease 3 = .ok (.invokevirtual 109, 3) := by decide +kernel
theorem dL_lastRelease_6 : decode cL_lastRelease 6 = .ok (.i2l, 1) := by decide +kernel
theorem dL_lastRelease_7 : decode cL_lastRelease 7 = .ok (.lastore, 1) := by decide +kernel
theorem dL_lastRelease_8 : decode cL_lastRelease 8 = .ok (.goto 6, 3) := by decide +kernel
theorem dL_lastRelease_11 : decode cL_lastRelease 11 = .ok (.astore_n 2, 1) := by decide +kernel
theorem dL_lastRelease_12 : decode cL_lastRelease 12 = .ok (.iconst 1, 1) := by decide +kernel
theorem dL_lastRelease_13 : decode cL_lastRelease 13 = .ok (.ireturn, 1) := by decide +kernel
theorem dL_lastRelease_14 : decode cL_lastRelease 14 = .ok (.iconst 0, 1) := by decide +kernel
theorem dL_lastRelease_15 : decode cL_lastRelease 15 = .ok (.ireturn, 1) := by decide +kernel
theorem dL_lastEnd_0 : decode cL_lastEnd 0 = .ok (.aload_n 1, 1) := by decide +kernel
theorem dL_lastEnd_1 : decode cL_lastEnd 1 = .ok (.iconst 0, 1) := by decide +kernel
theorem dL_lastEnd_2 : decode cL_lastEnd 2 = .ok (.aload_n 0, 1) := by decide +kernel
theorem dL_lastEnd_3 : decode cL_lastEnd 3 = .ok (.invokevirtual 113, 3) := by decide +kernel
theorem dL_lastEnd_6 : decode cL_lastEnd 6 = .ok (.i2l, 1) := by decide +kernel
theorem dL_lastEnd_7 : decode cL_lastEnd 7 = .ok (.lastore, 1) := by decide +kernel
theorem dL_lastEnd_8 : decode cL_lastEnd 8 = .ok (.goto 6, 3) := by decide +kernel
theorem dL_lastEnd_11 : decode cL_lastEnd 11 = .ok (.astore_n 2, 1) := by decide +kernel
theorem dL_lastEnd_12 : decode cL_lastEnd 12 = .ok (.iconst 1, 1) := by decide +kernel
theorem dL_lastEnd_13 : decode cL_lastEnd 13 = .ok (.ireturn, 1) := by decide +kernel
theorem dL_lastEnd_14 : decode cL_lastEnd 14 = .ok (.iconst 0, 1) := by decide +kernel
theorem dL_lastEnd_15 : decode cL_lastEnd 15 = .ok (.ireturn, 1) := by decide +kernel
theorem dL_decidingTerm_0 : decode cL_decidingTerm 0 = .ok (.aload_n 1, 1) := by decide +kernel
theorem dL_decidingTerm_1 : decode cL_decidingTerm 1 = .ok (.iconst 0, 1) := by decide +kernel
theorem dL_decidingTerm_2 : decode cL_decidingTerm 2 = .ok (.aload_n 0, 1) := by decide +kernel
theorem dL_decidingTerm_3 : decode cL_decidingTerm 3 = .ok (.invokevirtual 116, 3) := by decide +kernel
theorem dL_decidingTerm_6 : decode cL_decidingTerm 6 = .ok (.i2l, 1) := by decide +kernel
theorem dL_decidingTerm_7 : decode cL_decidingTerm 7 = .ok (.lastore, 1) := by decide +kernel
theorem dL_decidingTerm_8 : decode cL_decidingTerm 8 = .ok (.goto 6, 3) := by decide +kernel
theorem dL_decidingTerm_11 : decode cL_decidingTerm 11 = .ok (.astore_n 2, 1) := by decide +kernel
theorem dL_decidingTerm_12 : decode cL_decidingTerm 12 = .ok (.iconst 1, 1) := by decide +kernel
theorem dL_decidingTerm_13 : decode cL_decidingTerm 13 = .ok (.ireturn, 1) := by decide +kernel
theorem dL_decidingTerm_14 : decode cL_decidingTerm 14 = .ok (.iconst 0, 1) := by decide +kernel
theorem dL_decidingTerm_15 : decode cL_decidingTerm 15 = .ok (.ireturn, 1) := by decide +kernel
theorem dL_termByRelease_0 : decode cL_termByRelease 0 = .ok (.aload_n 2, 1) := by decide +kernel
theorem dL_termByRelease_1 : decode cL_termByRelease 1 = .ok (.iconst 0, 1) := by decide +kernel
theorem dL_termByRelease_2 : decode cL_termByRelease 2 = .ok (.aload_n 0, 1) := by decide +kernel
theorem dL_termByRelease_3 : decode cL_termByRelease 3 = .ok (.iload_n 1, 1) := by decide +kernel
theorem dL_termByRelease_4 : decode cL_termByRelease 4 = .ok (.invokevirtual 119, 3) := by decide +kernel
theorem dL_termByRelease_7 : decode cL_termByRelease 7 = .ok (.i2l, 1) := by decide +kernel
theorem dL_termByRelease_8 : decode cL_termByRelease 8 = .ok (.lastore, 1) := by decide +kernel
theorem dL_termByRelease_9 : decode cL_termByRelease 9 = .ok (.goto 6, 3) := by decide +kernel
theorem dL_termByRelease_12 : decode cL_termByRelease 12 = .ok (.astore_n 3, 1) := by decide +kernel
theorem dL_termByRelease_13 : decode cL_termByRelease 13 = .ok (.iconst 1, 1) := by decide +kernel
theorem dL_termByRelease_14 : decode cL_termByRelease 14 = .ok (.ireturn, 1) := by decide +kernel
theorem dL_termByRelease_15 : decode cL_termByRelease 15 = .ok (.iconst 0, 1) := by decide +kernel
theorem dL_termByRelease_16 : decode cL_termByRelease 16 = .ok (.ireturn, 1) := by decide +kernel
theorem dL_recallEnd_0 : decode cL_recallEnd 0 = .ok (.aload_n 1, 1) := by decide +kernel
theorem dL_recallEnd_1 : decode cL_recallEnd 1 = .ok (.iconst 0, 1) := by decide +kernel
theorem dL_recallEnd_2 : decode cL_recallEnd 2 = .ok (.aload_n 0, 1) := by decide +kernel
theorem dL_recallEnd_3 : decode cL_recallEnd 3 = .ok (.invokevirtual 122, 3) := by decide +kernel
theorem dL_recallEnd_6 : decode cL_recallEnd 6 = .ok (.i2l, 1) := by decide +kernel
theorem dL_recallEnd_7 : decode cL_recallEnd 7 = .ok (.lastore, 1) := by decide +kernel
theorem dL_recallEnd_8 : decode cL_recallEnd 8 = .ok (.goto 6, 3) := by decide +kernel
theorem dL_recallEnd_11 : decode cL_recallEnd 11 = .ok (.astore_n 2, 1) := by decide +kernel
theorem dL_recallEnd_12 : decode cL_recallEnd 12 = .ok (.iconst 1, 1) := by decide +kernel
theorem dL_recallEnd_13 : decode cL_recallEnd 13 = .ok (.ireturn, 1) := by decide +kernel
theorem dL_recallEnd_14 : decode cL_recallEnd 14 = .ok (.iconst 0, 1) := by decide +kernel
theorem dL_recallEnd_15 : decode cL_recallEnd 15 = .ok (.ireturn, 1) := by decide +kernel
theorem dL_awardDays_0 : decode cL_awardDays 0 = .ok (.aload_n 2, 1) := by decide +kernel
theorem dL_awardDays_1 : decode cL_awardDays 1 = .ok (.iconst 0, 1) := by decide +kernel
theorem dL_awardDays_2 : decode cL_awardDays 2 = .ok (.aload_n 0, 1) := by decide +kernel
theorem dL_awardDays_3 : decode cL_awardDays 3 = .ok (.iload_n 1, 1) := by decide +kernel
theorem dL_awardDays_4 : decode cL_awardDays 4 = .ok (.invokevirtual 125, 3) := by decide +kernel
theorem dL_awardDays_7 : decode cL_awardDays 7 = .ok (.i2l, 1) := by decide +kernel
theorem dL_awardDays_8 : decode cL_awardDays 8 = .ok (.lastore, 1) := by decide +kernel
theorem dL_awardDays_9 : decode cL_awardDays 9 = .ok (.goto 6, 3) := by decide +kernel
theorem dL_awardDays_12 : decode cL_awardDays 12 = .ok (.astore_n 3, 1) := by decide +kernel
theorem dL_awardDays_13 : decode cL_awardDays 13 = .ok (.iconst 1, 1) := by decide +kernel
theorem dL_awardDays_14 : decode cL_awardDays 14 = .ok (.ireturn, 1) := by decide +kernel
theorem dL_awardDays_15 : decode cL_awardDays 15 = .ok (.iconst 0, 1) := by decide +kernel
theorem dL_awardDays_16 : decode cL_awardDays 16 = .ok (.ireturn, 1) := by decide +kernel
theorem dL_concerns_0 : decode cL_concerns 0 = .ok (.aload_n 3, 1) := by decide +kernel
theorem dL_concerns_1 : decode cL_concerns 1 = .ok (.iconst 0, 1) := by decide +kernel
theorem dL_concerns_2 : decode cL_concerns 2 = .ok (.aload_n 0, 1) := by decide +kernel
theorem dL_concerns_3 : decode cL_concerns 3 = .ok (.iload_n 1, 1) := by decide +kernel
theorem dL_concerns_4 : decode cL_concerns 4 = .ok (.iload_n 2, 1) := by decide +kernel
theorem dL_concerns_5 : decode cL_concerns 5 = .ok (.invokevirtual 128, 3) := by decide +kernel
theorem dL_concerns_8 : decode cL_concerns 8 = .ok (.ifCond .eq 7, 3) := by decide +kernel
theorem dL_concerns_11 : decode cL_concerns 11 = .ok (.lconst 1, 1) := by decide +kernel
theorem dL_concerns_12 : decode cL_concerns 12 = .ok (.goto 4, 3) := by decide +kernel
theorem dL_concerns_15 : decode cL_concerns 15 = .ok (.lconst 0, 1) := by decide +kernel
theorem dL_concerns_16 : decode cL_concerns 16 = .ok (.lastore, 1) := by decide +kernel
theorem dL_concerns_17 : decode cL_concerns 17 = .ok (.goto 7, 3) := by decide +kernel
theorem dL_concerns_20 : decode cL_concerns 20 = .ok (.astore 4, 2) := by decide +kernel
theorem dL_concerns_22 : decode cL_concerns 22 = .ok (.iconst 1, 1) := by decide +kernel
theorem dL_concerns_23 : decode cL_concerns 23 = .ok (.ireturn, 1) := by decide +kernel
theorem dL_concerns_24 : decode cL_concerns 24 = .ok (.iconst 0, 1) := by decide +kernel
theorem dL_concerns_25 : decode cL_concerns 25 = .ok (.ireturn, 1) := by decide +kernel
theorem dL_lastReleaseWithAward_0 : decode cL_lastReleaseWithAward 0 = .ok (.aload_n 2, 1) := by decide +kernel
theorem dL_lastReleaseWithAward_1 : decode cL_lastReleaseWithAward 1 = .ok (.iconst 0, 1) := by decide +kernel
theorem dL_lastReleaseWithAward_2 : decode cL_lastReleaseWithAward 2 = .ok (.aload_n 0, 1) := by decide +kernel
theorem dL_lastReleaseWithAward_3 : decode cL_lastReleaseWithAward 3 = .ok (.iload_n 1, 1) := by decide +kernel
theorem dL_lastReleaseWithAward_4 : decode cL_lastReleaseWithAward 4 = .ok (.invokevirtual 132, 3) := by decide +kernel
theorem dL_lastReleaseWithAward_7 : decode cL_lastReleaseWithAward 7 = .ok (.i2l, 1) := by decide +kernel
theorem dL_lastReleaseWithAward_8 : decode cL_lastReleaseWithAward 8 = .ok (.lastore, 1) := by decide +kernel
theorem dL_lastReleaseWithAward_9 : decode cL_lastReleaseWithAward 9 = .ok (.goto 9, 3) := by decide +kernel
theorem dL_lastReleaseWithAward_12 : decode cL_lastReleaseWithAward 12 = .ok (.astore_n 3, 1) := by decide +kernel
theorem dL_lastReleaseWithAward_13 : decode cL_lastReleaseWithAward 13 = .ok (.iconst 1, 1) := by decide +kernel
theorem dL_lastReleaseWithAward_14 : decode cL_lastReleaseWithAward 14 = .ok (.ireturn, 1) := by decide +kernel
theorem dL_lastReleaseWithAward_15 : decode cL_lastReleaseWithAward 15 = .ok (.astore_n 3, 1) := by decide +kernel
theorem dL_lastReleaseWithAward_16 : decode cL_lastReleaseWithAward 16 = .ok (.iconst 2, 1) := by decide +kernel
theorem dL_lastReleaseWithAward_17 : decode cL_lastReleaseWithAward 17 = .ok (.ireturn, 1) := by decide +kernel
theorem dL_lastReleaseWithAward_18 : decode cL_lastReleaseWithAward 18 = .ok (.iconst 0, 1) := by decide +kernel
theorem dL_lastReleaseWithAward_19 : decode cL_lastReleaseWithAward 19 = .ok (.ireturn, 1) := by decide +kernel
theorem dL_lastReleaseWithout_0 : decode cL_lastReleaseWithout 0 = .ok (.aload_n 2, 1) := by decide +kernel
theorem dL_lastReleaseWithout_1 : decode cL_lastReleaseWithout 1 = .ok (.iconst 0, 1) := by decide +kernel
theorem dL_lastReleaseWithout_2 : decode cL_lastReleaseWithout 2 = .ok (.aload_n 0, 1) := by decide +kernel
theorem dL_lastReleaseWithout_3 : decode cL_lastReleaseWithout 3 = .ok (.iload_n 1, 1) := by decide +kernel
theorem dL_lastReleaseWithout_4 : decode cL_lastReleaseWithout 4 = .ok (.invokevirtual 135, 3) := by decide +kernel
theorem dL_lastReleaseWithout_7 : decode cL_lastReleaseWithout 7 = .ok (.i2l, 1) := by decide +kernel
theorem dL_lastReleaseWithout_8 : decode cL_lastReleaseWithout 8 = .ok (.lastore, 1) := by decide +kernel
theorem dL_lastReleaseWithout_9 : decode cL_lastReleaseWithout 9 = .ok (.goto 12, 3) := by decide +kernel
theorem dL_lastReleaseWithout_12 : decode cL_lastReleaseWithout 12 = .ok (.astore_n 3, 1) := by decide +kernel
theorem dL_lastReleaseWithout_13 : decode cL_lastReleaseWithout 13 = .ok (.iconst 1, 1) := by decide +kernel
theorem dL_lastReleaseWithout_14 : decode cL_lastReleaseWithout 14 = .ok (.ireturn, 1) := by decide +kernel
theorem dL_lastReleaseWithout_15 : decode cL_lastReleaseWithout 15 = .ok (.astore_n 3, 1) := by decide +kernel
theorem dL_lastReleaseWithout_16 : decode cL_lastReleaseWithout 16 = .ok (.iconst 2, 1) := by decide +kernel
theorem dL_lastReleaseWithout_17 : decode cL_lastReleaseWithout 17 = .ok (.ireturn, 1) := by decide +kernel
theorem dL_lastReleaseWithout_18 : decode cL_lastReleaseWithout 18 = .ok (.astore_n 3, 1) := by decide +kernel
theorem dL_lastReleaseWithout_19 : decode cL_lastReleaseWithout 19 = .ok (.iconst 3, 1) := by decide +kernel
theorem dL_lastReleaseWithout_20 : decode cL_lastReleaseWithout 20 = .ok (.ireturn, 1) := by decide +kernel
theorem dL_lastReleaseWithout_21 : decode cL_lastReleaseWithout 21 = .ok (.iconst 0, 1) := by decide +kernel
theorem dL_lastReleaseWithout_22 : decode cL_lastReleaseWithout 22 = .ok (.ireturn, 1) := by decide +kernel
theorem dL_statusOn_0 : decode cL_statusOn 0 = .ok (.aload_n 2, 1) := by decide +kernel
theorem dL_statusOn_1 : decode cL_statusOn 1 = .ok (.iconst 0, 1) := by decide +kernel
theorem dL_statusOn_2 : decode cL_statusOn 2 = .ok (.aload_n 0, 1) := by decide +kernel
theorem dL_statusOn_3 : decode cL_statusOn 3 = .ok (.iload_n 1, 1) := by decide +kernel
theorem dL_statusOn_4 : decode cL_statusOn 4 = .ok (.invokevirtual 138, 3) := by decide +kernel
theorem dL_statusOn_7 : decode cL_statusOn 7 = .ok (.i2l, 1) := by decide +kernel
theorem dL_statusOn_8 : decode cL_statusOn 8 = .ok (.lastore, 1) := by decide +kernel
theorem dL_statusOn_9 : decode cL_statusOn 9 = .ok (.goto 6, 3) := by decide +kernel
theorem dL_statusOn_12 : decode cL_statusOn 12 = .ok (.astore_n 3, 1) := by decide +kernel
theorem dL_statusOn_13 : decode cL_statusOn 13 = .ok (.iconst 1, 1) := by decide +kernel
theorem dL_statusOn_14 : decode cL_statusOn 14 = .ok (.ireturn, 1) := by decide +kernel
theorem dL_statusOn_15 : decode cL_statusOn 15 = .ok (.iconst 0, 1) := by decide +kernel
theorem dL_statusOn_16 : decode cL_statusOn 16 = .ok (.ireturn, 1) := by decide +kernel
theorem dL_outputAt_0 : decode cL_outputAt 0 = .ok (.aload_n 2, 1) := by decide +kernel
theorem dL_outputAt_1 : decode cL_outputAt 1 = .ok (.iconst 0, 1) := by decide +kernel
theorem dL_outputAt_2 : decode cL_outputAt 2 = .ok (.aload_n 0, 1) := by decide +kernel
theorem dL_outputAt_3 : decode cL_outputAt 3 = .ok (.iload_n 1, 1) := by decide +kernel
theorem dL_outputAt_4 : decode cL_outputAt 4 = .ok (.invokevirtual 141, 3) := by decide +kernel
theorem dL_outputAt_7 : decode cL_outputAt 7 = .ok (.i2l, 1) := by decide +kernel
theorem dL_outputAt_8 : decode cL_outputAt 8 = .ok (.lastore, 1) := by decide +kernel
theorem dL_outputAt_9 : decode cL_outputAt 9 = .ok (.goto 6, 3) := by decide +kernel
theorem dL_outputAt_12 : decode cL_outputAt 12 = .ok (.astore_n 3, 1) := by decide +kernel
theorem dL_outputAt_13 : decode cL_outputAt 13 = .ok (.iconst 1, 1) := by decide +kernel
theorem dL_outputAt_14 : decode cL_outputAt 14 = .ok (.ireturn, 1) := by decide +kernel
theorem dL_outputAt_15 : decode cL_outputAt 15 = .ok (.iconst 0, 1) := by decide +kernel
theorem dL_outputAt_16 : decode cL_outputAt 16 = .ok (.ireturn, 1) := by decide +kernel
end
section
/-! ===== my kit, 1: one word list for all methods; contracts that say 'on world w1 it answers rv and leaves world w2' ===== -/
abbrev gG : Type := va_G × (Nat → ClassId)
def gty (G : gG) : List (ClassId × FieldType) := [(G.2 0, .int), (G.2 1, .long), (G.2 2, .boolean), (G.2 3, .byte)]
def KK (G : gG) (U : State) : Prop := va_K G.1 vwCl (gty G) U
def BIG : List Cond := lw_tbl.filter goodWord
theorem big_in {w : Cond} (h : w ∈ lw_tbl) (g : goodWord w = true) : w ∈ BIG := List.mem_filter.mpr ⟨h, g⟩
theorem big_tbl : ∀ w ∈ BIG, w ∈ lw_tbl := fun _ h => (List.mem_filter.mp h).1
theorem big_good : ∀ w ∈ BIG, goodWord w = true := fun _ h => (List.mem_filter.mp h).2
def WS (y : MethodName) (cc : ByteArray) (n : Nat) (ret : Option FieldType) : List Cond := .code y cc n ret :: BIG
theorem ws_in {y : MethodName} {cc : ByteArray} {n : Nat} {ret : Option FieldType} : ∀ w ∈ BIG, w ∈ WS y cc n ret := fun _ h => List.mem_cons_of_mem _ h
theorem big_goodIn {Ts : List Cond} (hT : ∀ w ∈ BIG, w ∈ Ts) {y : MethodName} {cc : ByteArray} {n : Nat} {ret : Option FieldType} (h : Cond.code y cc n ret ∈ BIG) : GoodIn Ts (WS y cc n ret) := by
  intro w hw
  have hb : w ∈ BIG := (List.mem_cons.mp hw).elim (fun e => by rw [e]; exact h) id
  exact ⟨hT w hb, good_of_word (big_good w hb)⟩
/-- what the tables say of a callee that is selected by its receiver's class -/
def CalV (y : MethodName) (cc : ByteArray) (mL : Nat) (ret : Option FieldType) (n : Nat) : Prop :=
  Cond.instanceMethod y ∈ BIG ∧ Cond.selects y.cls y y ∈ BIG ∧ Cond.initialized y.cls ∈ BIG ∧ Cond.code y cc mL ret ∈ BIG ∧ y.cls ≠ "java/lang/invoke/MethodHandle" ∧ y.cls ≠ "java/lang/invoke/VarHandle" ∧ (parseMethodDescriptor y.desc).map (fun d => d.parameters.length) = some n
def CalS (y : MethodName) (cc : ByteArray) (mL : Nat) (ret : Option FieldType) (n : Nat) : Prop :=
  Cond.static y ∈ BIG ∧ Cond.initialized y.cls ∈ BIG ∧ Cond.code y cc mL ret ∈ BIG ∧ y.cls ≠ "java/lang/invoke/MethodHandle" ∧ y.cls ≠ "java/lang/invoke/VarHandle" ∧ (parseMethodDescriptor y.desc).map (fun d => d.parameters.length) = some n
theorem k_cwV {R : Room} {s : State} {args : Array Value} {Ts : List Cond} {own : String} {index : Nat} {y : MethodName} {bytes : ByteArray} {mL : Nat} {ret : Option FieldType} {n : Nat} {rm : Room} (ht : ∀ w ∈ Ts, w.before args s = true) (hT : ∀ w ∈ BIG, w ∈ Ts) (hl : Cond.methodLink own index y ∈ BIG) (h : CalV y bytes mL ret n) (hR : rm.frames + 1 ≤ R.frames ∧ 8 + (mL + 11) + rm.locals ≤ R.locals) :
    CallW R s args own y.cls index y bytes mL ret (WS y bytes mL ret) rm rm.cells rm.slots n := by
  obtain ⟨h1, h2, h3, h4, h5, h6, h7⟩ := h
  refine cwV n ht ?_ rfl rfl rfl ⟨rfl, h5, h6, h7⟩ hR
  show GoodIn Ts (([.methodLink own index y, .instanceMethod y, .selects y.cls y y, .initialized y.cls] : List Cond) ++ WS y bytes mL ret)
  refine goodIn_app ?_ (big_goodIn hT h4)
  intro w hw
  have hb : w ∈ BIG := by
    simp only [List.mem_cons, List.not_mem_nil, or_false] at hw
    rcases hw with rfl | rfl | rfl | rfl <;> assumption
  exact ⟨hT w hb, good_of_word (big_good w hb)⟩
theorem k_cwS {R : Room} {s : State} {args : Array Value} {Ts : List Cond} {own : String} {index : Nat} {y : MethodName} {bytes : ByteArray} {mL : Nat} {ret : Option FieldType} {n : Nat} {rm : Room} (ht : ∀ w ∈ Ts, w.before args s = true) (hT : ∀ w ∈ BIG, w ∈ Ts) (hl : Cond.methodLink own index y ∈ BIG) (h : CalS y bytes mL ret n) (hR : rm.frames + 1 ≤ R.frames ∧ 8 + (mL + 11) + rm.locals ≤ R.locals) :
    CallB R s args own index y bytes mL ret (WS y bytes mL ret) rm rm.cells rm.slots n ∧ (Cond.static y).before args s = true := by
  obtain ⟨h1, h3, h4, h5, h6, h7⟩ := h
  refine va_cwS n ht ?_ rfl rfl rfl ⟨h5, h6, h7⟩ hR
  show GoodIn Ts (([.methodLink own index y, .static y, .initialized y.cls] : List Cond) ++ WS y bytes mL ret)
  refine goodIn_app ?_ (big_goodIn hT h4)
  intro w hw
  have hb : w ∈ BIG := by
    simp only [List.mem_cons, List.not_mem_nil, or_false] at hw
    rcases hw with rfl | rfl | rfl <;> assumption
  exact ⟨hT w hb, good_of_word (big_good w hb)⟩
abbrev rmk (fr mc ms lo : Nat) : Room := { frames := fr, cells := mc, slots := ms, locals := lo }
def PcW (G : gG) (w1 : va_W) (sz : Nat) (U : State) : Prop := U.heap.size = sz ∧ va_P G.1 vwCl w1 U.heap ∧ KK G U ∧ va_D (fun _ => True) w1
theorem k_blind {G : gG} {av : List Value} {w1 : va_W} {sz : Nat} : FrameBlind (va_Pc av (PcW G w1 sz)) := fun a U g mk q => by
  obtain ⟨q0, q1, qP, qK, qD⟩ := q
  exact ⟨q0, q1, qP, va_K.moved (u := U) (U := U.calling g mk a) (Vm.Alike.refl U.vm) qK, qD⟩
/-- the world w, its addresses in A; what changed since s lies in A -/
def Wd (G : gG) (w : va_W) (A : Nat → Prop) (s : State) (H : Heap) (locs : List Loc) : Prop := KK G s ∧ va_P G.1 vwCl w H ∧ va_D A w ∧ va_S A s.heap H locs ∧ ∀ q : Nat, s.heap.size ≤ q → A q
def BW (G : gG) (w2 : va_W) (A : Nat → Prop) (t : State) : Prop := va_P G.1 vwCl w2 t.heap ∧ va_D A w2
def MetI (G : gG) (l : Launch) (y : MethodName) (cc : ByteArray) (mL : Nat) (ret : Option FieldType) (fr mc ms lo : Nat) (av : List Value) (w1 w2 : va_W) (rv : Int32) : Prop :=
  ∀ sz : Nat, Met l y (WS y cc mL ret) (rmk fr mc ms lo) (va_Pc av (PcW G w1 sz)) (va_Qi (fun (r : Int32) (_ : Unit) => r = rv) (fun _ t => BW G w2 (va_A w1 sz) t) (va_A w1 sz)) mc ms (va_A w1 sz)
def MetJ (G : gG) (l : Launch) (y : MethodName) (cc : ByteArray) (mL : Nat) (ret : Option FieldType) (fr mc ms lo : Nat) (av : List Value) (w1 w2 : va_W) (rv : Int64) : Prop :=
  ∀ sz : Nat, Met l y (WS y cc mL ret) (rmk fr mc ms lo) (va_Pc av (PcW G w1 sz)) (va_Ql (fun (r : Int64) (_ : Unit) => r = rv) (fun _ t => BW G w2 (va_A w1 sz) t) (va_A w1 sz)) mc ms (va_A w1 sz)
def MetV (G : gG) (l : Launch) (y : MethodName) (cc : ByteArray) (mL : Nat) (ret : Option FieldType) (fr mc ms lo : Nat) (av : List Value) (w1 w2 : va_W) : Prop :=
  ∀ sz : Nat, Met l y (WS y cc mL ret) (rmk fr mc ms lo) (va_Pc av (PcW G w1 sz)) (va_Qv (fun (_ : Unit) => True) (fun _ t => BW G w2 (va_A w1 sz) t) (va_A w1 sz)) mc ms (va_A w1 sz)
def KQI (G : gG) (below : List Frame) (args : Array Value) (s : State) (A : Nat → Prop) (w2 : va_W) (rv : Int32) (mc ms : Nat) : State → Prop := MQ below (va_Qi (fun (r : Int32) (_ : Unit) => r = rv) (fun _ t => BW G w2 A t) A) args s mc ms A
def KQJ (G : gG) (below : List Frame) (args : Array Value) (s : State) (A : Nat → Prop) (w2 : va_W) (rv : Int64) (mc ms : Nat) : State → Prop := MQ below (va_Ql (fun (r : Int64) (_ : Unit) => r = rv) (fun _ t => BW G w2 A t) A) args s mc ms A
def KQV (G : gG) (below : List Frame) (args : Array Value) (s : State) (A : Nat → Prop) (w2 : va_W) (mc ms : Nat) : State → Prop := MQ below (va_Qv (fun (_ : Unit) => True) (fun _ t => BW G w2 A t) A) args s mc ms A
theorem k_ofI {G : gG} {l : Launch} {y : MethodName} {cc : ByteArray} {mL : Nat} {ret : Option FieldType} {fr mc ms lo : Nat} {av : List Value} {w1 w2 : va_W} {rv : Int32} (hy : plainName y.cls = true) (hn : (lg_sl av).length ≤ mL)
    (body : ∀ (p : Program) (e : Env) (s : State) (m : MethodId) (args : Array Value) (below : List Frame) (meth : Method) (c : Code) (ls : Array Slot) (A : Nat → Prop), CallFix p m c cc mL s args (WS y cc mL ret) y.cls → meth.sig.returnType = ret → meth.locks = false → lv_has ls mL (lv_args 0 av) → Wd G w1 A s s.heap [] →
      W p l e (rmk fr mc ms lo) s m args below meth c s.heap [] 0 0 (KQI G below args s A w2 rv mc ms) (F0 m 0 ls [])) : MetI G l y cc mL ret fr mc ms lo av w1 w2 rv := by
  intro sz
  refine Met.ofW (cc := cc) (maxL := mL) (ret := ret) hy rfl ?_
  intro p e s m args below meth c s₁ B hml hv
  obtain ⟨rfl, hsz, hP, hK, hD0⟩ := hv
  subst hsz
  have hD := hD0.self (sz := s.heap.size)
  have hl := lv_entry av (n := mL) hn
  rw [lg_entry_eq]
  have hts := atoms_spec (ws := WS y cc mL ret) B.pre
  exact body p e s m _ below meth c _ (va_A w1 s.heap.size) ⟨B.exec, B.bytes, hml, findClass_of_methodNamed B.named, hts⟩ B.returns B.notSynchronized hl ⟨hK, hP, hD, va_S.rf, fun q h => Or.inr h⟩
theorem k_ofJ {G : gG} {l : Launch} {y : MethodName} {cc : ByteArray} {mL : Nat} {ret : Option FieldType} {fr mc ms lo : Nat} {av : List Value} {w1 w2 : va_W} {rv : Int64} (hy : plainName y.cls = true) (hn : (lg_sl av).length ≤ mL)
    (body : ∀ (p : Program) (e : Env) (s : State) (m : MethodId) (args : Array Value) (below : List Frame) (meth : Method) (c : Code) (ls : Array Slot) (A : Nat → Prop), CallFix p m c cc mL s args (WS y cc mL ret) y.cls → meth.sig.returnType = ret → meth.locks = false → lv_has ls mL (lv_args 0 av) → Wd G w1 A s s.heap [] →
      W p l e (rmk fr mc ms lo) s m args below meth c s.heap [] 0 0 (KQJ G below args s A w2 rv mc ms) (F0 m 0 ls [])) : MetJ G l y cc mL ret fr mc ms lo av w1 w2 rv := by
  intro sz
  refine Met.ofW (cc := cc) (maxL := mL) (ret := ret) hy rfl ?_
  intro p e s m args below meth c s₁ B hml hv
  obtain ⟨rfl, hsz, hP, hK, hD0⟩ := hv
  subst hsz
  have hD := hD0.self (sz := s.heap.size)
  have hl := lv_entry av (n := mL) hn
  rw [lg_entry_eq]
  have hts := atoms_spec (ws := WS y cc mL ret) B.pre
  exact body p e s m _ below meth c _ (va_A w1 s.heap.size) ⟨B.exec, B.bytes, hml, findClass_of_methodNamed B.named, hts⟩ B.returns B.notSynchronized hl ⟨hK, hP, hD, va_S.rf, fun q h => Or.inr h⟩
theorem k_ofV {G : gG} {l : Launch} {y : MethodName} {cc : ByteArray} {mL : Nat} {ret : Option FieldType} {fr mc ms lo : Nat} {av : List Value} {w1 w2 : va_W} (hy : plainName y.cls = true) (hn : (lg_sl av).length ≤ mL)
    (body : ∀ (p : Program) (e : Env) (s : State) (m : MethodId) (args : Array Value) (below : List Frame) (meth : Method) (c : Code) (ls : Array Slot) (A : Nat → Prop), CallFix p m c cc mL s args (WS y cc mL ret) y.cls → meth.sig.returnType = ret → meth.locks = false → lv_has ls mL (lv_args 0 av) → Wd G w1 A s s.heap [] →
      W p l e (rmk fr mc ms lo) s m args below meth c s.heap [] 0 0 (KQV G below args s A w2 mc ms) (F0 m 0 ls [])) : MetV G l y cc mL ret fr mc ms lo av w1 w2 := by
  intro sz
  refine Met.ofW (cc := cc) (maxL := mL) (ret := ret) hy rfl ?_
  intro p e s m args below meth c s₁ B hml hv
  obtain ⟨rfl, hsz, hP, hK, hD0⟩ := hv
  subst hsz
  have hD := hD0.self (sz := s.heap.size)
  have hl := lv_entry av (n := mL) hn
  rw [lg_entry_eq]
  have hts := atoms_spec (ws := WS y cc mL ret) B.pre
  exact body p e s m _ below meth c _ (va_A w1 s.heap.size) ⟨B.exec, B.bytes, hml, findClass_of_methodNamed B.named, hts⟩ B.returns B.notSynchronized hl ⟨hK, hP, hD, va_S.rf, fun q h => Or.inr h⟩
/-! appended worlds -/
theorem k_Pl {D : va_G} {cl : List vw_C} {a b : va_W} {H : Heap} (h : va_P D cl (a ++ b) H) : va_P D cl a H := fun k q hk => h k q (by
  rw [List.getElem?_append_left (List.getElem?_eq_some_iff.mp hk).1]; exact hk)
theorem k_Pr {D : va_G} {cl : List vw_C} {a b : va_W} {H : Heap} (h : va_P D cl (a ++ b) H) : va_P D cl b H := fun k q hk => h (a.length + k) q (by
  rw [List.getElem?_append_right (Nat.le_add_right _ _), Nat.add_sub_cancel_left]; exact hk)
theorem k_Dl {A : Nat → Prop} {a b : va_W} (h : va_D A (a ++ b)) : va_D A a := by
  have key : ∀ (k : Nat) (q : Nat × va_E), a[k]? = some q → (a ++ b)[k]? = some q := fun k q hk => by
    rw [List.getElem?_append_left (List.getElem?_eq_some_iff.mp hk).1]; exact hk
  exact ⟨fun i j p q hi hj e => h.1 i j p q (key _ _ hi) (key _ _ hj) e, fun k q hk => h.2 k q (key _ _ hk)⟩
theorem k_Dr {A : Nat → Prop} {a b : va_W} (h : va_D A (a ++ b)) : va_D A b := by
  have key : ∀ (k : Nat) (q : Nat × va_E), b[k]? = some q → (a ++ b)[a.length + k]? = some q := fun k q hk => by
    rw [List.getElem?_append_right (Nat.le_add_right _ _), Nat.add_sub_cancel_left]; exact hk
  refine ⟨fun i j p q hi hj e => ?_, fun k q hk => h.2 _ q (key _ _ hk)⟩
  have := h.1 _ _ p q (key _ _ hi) (key _ _ hj) e
  omega
theorem k_Dx {A : Nat → Prop} {a b : va_W} (h : va_D A (a ++ b)) (i j : Nat) (p q : Nat × va_E) (hi : a[i]? = some p) (hj : b[j]? = some q) : p.1 ≠ q.1 := by
  intro e
  have hl := (List.getElem?_eq_some_iff.mp hi).1
  have h1 : (a ++ b)[i]? = some p := by rw [List.getElem?_append_left hl]; exact hi
  have h2 : (a ++ b)[a.length + j]? = some q := by rw [List.getElem?_append_right (Nat.le_add_right _ _), Nat.add_sub_cancel_left]; exact hj
  have := h.1 _ _ p q h1 h2 e
  omega
theorem k_frame {D : va_G} {cl : List vw_C} {A : Nat → Prop} {wl w1 wr w2 : va_W} {H H1 : Heap} (hP : va_P D cl (wl ++ (w1 ++ wr)) H) (hD : va_D A (wl ++ (w1 ++ wr))) (hk : ∀ q : Nat, q < H.size → ¬ va_A w1 H.size q → H1[q]? = H[q]?) (hF : ∀ q, va_A w1 H.size q → A q) (hP2 : va_P D cl w2 H1) (hD2 : va_D (va_A w1 H.size) w2) :
    va_P D cl (wl ++ (w2 ++ wr)) H1 ∧ va_D A (wl ++ (w2 ++ wr)) := by
  have hPl := k_Pl hP
  have hPr := k_Pr (k_Pr hP)
  have hDl := k_Dl hD
  have hDm := k_Dr hD
  have hDr := k_Dr hDm
  have outl : ∀ (k : Nat) (q : Nat × va_E), wl[k]? = some q → q.1 < H.size ∧ ¬ va_A w1 H.size q.1 := by
    intro k q hk1
    have hlt := (hPl k q hk1).lt
    refine ⟨hlt, fun h => ?_⟩
    rcases h with ⟨j, e, hj⟩ | h
    · have hj' : (w1 ++ wr)[j]? = some (q.1, e) := by rw [List.getElem?_append_left (List.getElem?_eq_some_iff.mp hj).1]; exact hj
      exact k_Dx hD k j q (q.1, e) hk1 hj' rfl
    · omega
  have outr : ∀ (k : Nat) (q : Nat × va_E), wr[k]? = some q → q.1 < H.size ∧ ¬ va_A w1 H.size q.1 := by
    intro k q hk1
    have hlt := (hPr k q hk1).lt
    refine ⟨hlt, fun h => ?_⟩
    rcases h with ⟨j, e, hj⟩ | h
    · exact k_Dx hDm j k (q.1, e) q hj hk1 rfl
    · omega
  have hPl1 : va_P D cl wl H1 := hPl.kept fun k q h => hk _ (outl k q h).1 (outl k q h).2
  have hPr1 : va_P D cl wr H1 := hPr.kept fun k q h => hk _ (outr k q h).1 (outr k q h).2
  refine ⟨hPl1.app (hP2.app hPr1), ?_⟩
  have hD2' : va_D A w2 := hD2.weaken fun k q _ h => hF _ h
  have hDmr : va_D A (w2 ++ wr) := hD2'.app hDr fun i j p q hi hj e => (outr j q hj).2 (e ▸ hD2.2 i p hi)
  refine hDl.app hDmr fun i j p q hi hj e => ?_
  by_cases hl : j < w2.length
  · rw [List.getElem?_append_left hl] at hj
    exact (outl i p hi).2 (e ▸ hD2.2 j q hj)
  · rw [List.getElem?_append_right (Nat.le_of_not_lt hl)] at hj
    have hi' : wl[i]? = some p := hi
    have hj' : (w1 ++ wr)[w1.length + (j - w2.length)]? = some q := by rw [List.getElem?_append_right (Nat.le_add_right _ _), Nat.add_sub_cancel_left]; exact hj
    exact k_Dx hD i _ p q hi' hj' e
end
section
/-! ===== my kit, 2: pure words; rows over Wd ===== -/
def qgd {α : Type} (b : Bool) (x : Option α) : Option α := if b = true then x else none
theorem qgd_e {α : Type} {b : Bool} {x : Option α} {r : α} (h : qgd b x = some r) : b = true ∧ x = some r := by
  unfold qgd at h
  split at h
  · exact ⟨by assumption, h⟩
  · cases h
def qin (i : Int32) (n : Nat) : Bool := decide (0 ≤ i) && decide (i.toNatClampNeg < n)
theorem qin_vp {i : Int32} {n : Nat} (h : qin i n = true) : vp_in i n := by
  simp only [qin, Bool.and_eq_true, decide_eq_true_eq] at h
  intro q
  rcases q with q | q
  · exact Int32.not_le.mpr q h.1
  · omega
def qz (v : Int32) : Bool := decide (v = 0) || decide (v = 1)
theorem qz_n {v : Int32} (h : qz v = true) : narrow .boolean (.int v) = .int v := by
  simp only [qz, Bool.or_eq_true, decide_eq_true_eq] at h
  rcases h with rfl | rfl <;> rfl
theorem qz_v {v : Int32} (h : qz v = true) : vp_nar .boolean v = v := by
  simp only [qz, Bool.or_eq_true, decide_eq_true_eq] at h
  rcases h with rfl | rfl <;> rfl
/-- a char -/
def qch (v : Int32) : Bool := decide ((v.toUInt32 % 65536).toInt32 = v)
theorem qch_n {v : Int32} (h : qch v = true) : narrow .char (.int v) = .int v := by
  simp only [qch, decide_eq_true_eq] at h
  rw [← h]
  exact pk_nc v
def qnm {α β : Type} (v : α) (f : α → β) : β := f v
theorem qnm_k {α β : Type} {v y : α} {f : α → β} {r : β} (e : y = v) (h : qnm v f = r) : f y = r := by rw [e]; exact h
def qbd {α β : Type} (x : Option α) (f : α → Option β) : Option β := match x with
  | none => none
  | some a => f a
theorem qbd_e {α β : Type} {x : Option α} {f : α → Option β} {r : β} (h : qbd x f = some r) : ∃ a, x = some a ∧ f a = some r := by
  cases x with
  | none => cases h
  | some a => exact ⟨a, rfl, h⟩
/-- a callee that may throw (its number; 0: it returns); d: what its caller hands on then -/
def qbx {α β : Type} (x : Option (Nat × α)) (d : α → β) (f : α → Option (Nat × β)) : Option (Nat × β) := match x with
  | none => none
  | some (0, a) => f a
  | some (k + 1, a) => some (k + 1, d a)
theorem qbx_e {α β : Type} {x : Option (Nat × α)} {d : α → β} {f : α → Option (Nat × β)} {r : Nat × β} (h : qbx x d f = some r) : ∃ (k : Nat) (a : α), x = some (k, a) ∧ (k = 0 → f a = some r) ∧ (k ≠ 0 → r = (k, d a)) := by
  match x, h with
  | none, h => cases h
  | some (0, a), h => exact ⟨0, a, rfl, fun _ => h, fun q => absurd rfl q⟩
  | some (k + 1, a), h => exact ⟨k + 1, a, rfl, fun q => (by cases q), fun _ => (Option.some.inj h).symm⟩
theorem q_t {α : Type} {P : Prop} [Decidable P] {x y r : α} (c : P) (h : (if P then x else y) = r) : x = r := by rw [if_pos c] at h; exact h
theorem q_f {α : Type} {P : Prop} [Decidable P] {x y r : α} (c : ¬ P) (h : (if P then x else y) = r) : y = r := by rw [if_neg c] at h; exact h
theorem q_s {α : Type} {x y : α} (h : some x = some y) : x = y := Option.some.inj h
theorem q_s2 {α β : Type} {x y : α} {z t : β} (h : some (x, z) = some (y, t)) : x = y ∧ z = t := Prod.mk.inj (Option.some.inj h)
theorem q_s3 {α β γ : Type} {x y : α} {z t : β} {u v : γ} (h : some (x, z, u) = some (y, t, v)) : x = y ∧ z = t ∧ u = v := by cases h; exact ⟨rfl, rfl, rfl⟩
theorem q_s4 {α β γ δ : Type} {x y : α} {z t : β} {u v : γ} {g h : δ} (q : some (x, z, u, g) = some (y, t, v, h)) : x = y ∧ z = t ∧ u = v ∧ g = h := by cases q; exact ⟨rfl, rfl, rfl, rfl⟩
abbrev SX : Type := (Nat → Nat → Int32) × (Nat → Nat → Int64)
def sr (x : SX) (r : Nat) (f : Nat → Int32) : SX := (fun k => if k = r then f else x.1 k, x.2)
def slr (x : SX) (r : Nat) (f : Nat → Int64) : SX := (x.1, fun k => if k = r then f else x.2 k)
abbrev si (x : SX) (r k : Nat) (v : Int32) : SX := sr x r (upd (x.1 r) k v)
abbrev sl (x : SX) (r k : Nat) (v : Int64) : SX := slr x r (vp_updL (x.2 r) k v)
section KITR
variable {p : Program} {l : Launch} {e : Env} {R : Room} {s : State} {m : MethodId} {args : Array Value} {below : List Frame} {meth : Method} {c : Code} {H : Heap} {locs : List Loc} {cells slots : Nat} {Q : State → Prop}
variable {cc : ByteArray} {pc : Nat} {ls : Array Slot} {rest : List Value} {nL : Nat} {Ts : List Cond} {own : String} {G : gG} {A : Nat → Prop} {w w' : va_W} {a n : Nat}
theorem k_ild (F : CallFix p m c cc nL s args Ts own) (hw : Wd G w A s H locs) (q0 : Nat) {f : Nat → Int32} (ha : w[q0]? = some (a, .inl (G.2 0, n, .inl f))) {i : Int32} (hin : qin i n = true) (hdg : decode cc pc = .ok (.iaload, 1))
    (kk : W p l e R s m args below meth c H locs cells slots Q (F0 m (pc + 1) ls (.int (f i.toNatClampNeg) :: rest))) : W p l e R s m args below meth c H locs cells slots Q (F0 m pc ls (.int i :: .ref a :: rest)) :=
  va_iald F.1 F.2.1 hw.1 hw.2.1 q0 0 ha rfl (qin_vp hin) hdg kk
theorem k_zld (F : CallFix p m c cc nL s args Ts own) (hw : Wd G w A s H locs) (q0 : Nat) {f : Nat → Int32} (ha : w[q0]? = some (a, .inl (G.2 2, n, .inl f))) {i : Int32} (hin : qin i n = true) (hdg : decode cc pc = .ok (.baload, 1))
    (kk : W p l e R s m args below meth c H locs cells slots Q (F0 m (pc + 1) ls (.int (f i.toNatClampNeg) :: rest))) : W p l e R s m args below meth c H locs cells slots Q (F0 m pc ls (.int i :: .ref a :: rest)) :=
  va_zald F.1 F.2.1 hw.1 hw.2.1 q0 2 ha rfl (qin_vp hin) hdg kk
theorem k_bld (F : CallFix p m c cc nL s args Ts own) (hw : Wd G w A s H locs) (q0 : Nat) {f : Nat → Int32} (ha : w[q0]? = some (a, .inl (G.2 3, n, .inl f))) {i : Int32} (hin : qin i n = true) (hdg : decode cc pc = .ok (.baload, 1))
    (kk : W p l e R s m args below meth c H locs cells slots Q (F0 m (pc + 1) ls (.int (f i.toNatClampNeg) :: rest))) : W p l e R s m args below meth c H locs cells slots Q (F0 m pc ls (.int i :: .ref a :: rest)) :=
  va_bald F.1 F.2.1 hw.1 hw.2.1 q0 3 ha rfl (qin_vp hin) hdg kk
theorem k_lld (F : CallFix p m c cc nL s args Ts own) (hw : Wd G w A s H locs) (q0 : Nat) {f : Nat → Int64} (ha : w[q0]? = some (a, .inl (G.2 1, n, .inr (.inl f)))) {i : Int32} (hin : qin i n = true) (hdg : decode cc pc = .ok (.laload, 1))
    (kk : W p l e R s m args below meth c H locs cells slots Q (F0 m (pc + 1) ls (.long (f i.toNatClampNeg) :: rest))) : W p l e R s m args below meth c H locs cells slots Q (F0 m pc ls (.int i :: .ref a :: rest)) :=
  va_lald F.1 F.2.1 hw.1 hw.2.1 q0 1 ha rfl (qin_vp hin) hdg kk
theorem k_ist (F : CallFix p m c cc nL s args Ts own) (hw : Wd G w A s H locs) (q0 : Nat) {f : Nat → Int32} (ha : w[q0]? = some (a, .inl (G.2 0, n, .inl (f)))) {i : Int32} {x : Int32} (hin : qin i n = true) (hw' : w.set q0 (a, .inl (G.2 0, n, .inl (upd f i.toNatClampNeg x))) = w') (hdg : decode cc pc = .ok (.iastore, 1))
    (kk : ∀ (H1 : Heap) (locs1 : List Loc), Wd G w' A s H1 locs1 → W p l e R s m args below meth c H1 locs1 cells slots Q (F0 m (pc + 1) ls rest)) : W p l e R s m args below meth c H locs cells slots Q (F0 m pc ls (.int x :: .int i :: .ref a :: rest)) := by
  obtain ⟨hK, hP, hD, hS, hA⟩ := hw
  exact va_iast F.1 F.2.1 hK hP hD hS q0 0 ha rfl (qin_vp hin) hdg fun H1 locs1 h1 h2 h3 => by
    exact kk H1 locs1 ⟨hK, hw' ▸ h1, hw' ▸ h2, h3, hA⟩
theorem k_zst (F : CallFix p m c cc nL s args Ts own) (hw : Wd G w A s H locs) (q0 : Nat) {f : Nat → Int32} (ha : w[q0]? = some (a, .inl (G.2 2, n, .inl (f)))) {i : Int32} {x : Int32} (hin : qin i n = true) (hx : vp_nar .boolean x = x) (hw' : w.set q0 (a, .inl (G.2 2, n, .inl (upd f i.toNatClampNeg x))) = w') (hdg : decode cc pc = .ok (.bastore, 1))
    (kk : ∀ (H1 : Heap) (locs1 : List Loc), Wd G w' A s H1 locs1 → W p l e R s m args below meth c H1 locs1 cells slots Q (F0 m (pc + 1) ls rest)) : W p l e R s m args below meth c H locs cells slots Q (F0 m pc ls (.int x :: .int i :: .ref a :: rest)) := by
  obtain ⟨hK, hP, hD, hS, hA⟩ := hw
  exact va_zast F.1 F.2.1 hK hP hD hS q0 2 ha rfl (qin_vp hin) hdg fun H1 locs1 h1 h2 h3 => by
    rw [hx] at h1 h2; exact kk H1 locs1 ⟨hK, hw' ▸ h1, hw' ▸ h2, h3, hA⟩
theorem k_bst (F : CallFix p m c cc nL s args Ts own) (hw : Wd G w A s H locs) (q0 : Nat) {f : Nat → Int32} (ha : w[q0]? = some (a, .inl (G.2 3, n, .inl (f)))) {i : Int32} {x : Int32} (hin : qin i n = true) (hx : vp_nar .byte x = x) (hw' : w.set q0 (a, .inl (G.2 3, n, .inl (upd f i.toNatClampNeg x))) = w') (hdg : decode cc pc = .ok (.bastore, 1))
    (kk : ∀ (H1 : Heap) (locs1 : List Loc), Wd G w' A s H1 locs1 → W p l e R s m args below meth c H1 locs1 cells slots Q (F0 m (pc + 1) ls rest)) : W p l e R s m args below meth c H locs cells slots Q (F0 m pc ls (.int x :: .int i :: .ref a :: rest)) := by
  obtain ⟨hK, hP, hD, hS, hA⟩ := hw
  exact va_bast F.1 F.2.1 hK hP hD hS q0 3 ha rfl (qin_vp hin) hdg fun H1 locs1 h1 h2 h3 => by
    rw [hx] at h1 h2; exact kk H1 locs1 ⟨hK, hw' ▸ h1, hw' ▸ h2, h3, hA⟩
theorem k_lst (F : CallFix p m c cc nL s args Ts own) (hw : Wd G w A s H locs) (q0 : Nat) {f : Nat → Int64} (ha : w[q0]? = some (a, .inl (G.2 1, n, .inr (.inl (f))))) {i : Int32} {x : Int64} (hin : qin i n = true) (hw' : w.set q0 (a, .inl (G.2 1, n, .inr (.inl (vp_updL f i.toNatClampNeg x)))) = w') (hdg : decode cc pc = .ok (.lastore, 1))
    (kk : ∀ (H1 : Heap) (locs1 : List Loc), Wd G w' A s H1 locs1 → W p l e R s m args below meth c H1 locs1 cells slots Q (F0 m (pc + 1) ls rest)) : W p l e R s m args below meth c H locs cells slots Q (F0 m pc ls (.long x :: .int i :: .ref a :: rest)) := by
  obtain ⟨hK, hP, hD, hS, hA⟩ := hw
  exact va_last F.1 F.2.1 hK hP hD hS q0 1 ha rfl (qin_vp hin) hdg fun H1 locs1 h1 h2 h3 => by
    exact kk H1 locs1 ⟨hK, hw' ▸ h1, hw' ▸ h2, h3, hA⟩
theorem k_get (F : CallFix p m c cc nL s args Ts own) (hw : Wd G w A s H locs) {C ref : String} {T : u_T} {N ci index : Nat} (hin : ∀ q ∈ u_ws C T N, q ∈ Ts) (q0 : Nat) {fs : List Value} (he : w[q0]? = some (a, .inr (ci, fs))) (hc : vwCl[ci]? = some (C, T, N)) (k : Nat) (hk : k < N) (hlink : Cond.fieldLink own index ref (T k).2.1 (T k).2.2.1 ∈ Ts) (hsame : (T k).1 = ref) {v : Value} (hv : fs[k]? = some v) (hdg : decode cc pc = .ok (.getfield index, 3))
    (kk : W p l e R s m args below meth c H locs cells slots Q (F0 m (pc + 3) ls (v :: rest))) : W p l e R s m args below meth c H locs cells slots Q (F0 m pc ls (.ref a :: rest)) :=
  va_get (D := G.1) (cl := vwCl) F.1 F.2.1 F.2.2.2.2 hin F.2.2.2.1 hw.1 hw.2.1 q0 he hc k hk (F.2.2.2.2 _ hlink) (fun x h => by rw [← hsame]; exact h) hv hdg kk
theorem k_put (F : CallFix p m c cc nL s args Ts own) (hw : Wd G w A s H locs) {C ref : String} {T : u_T} {N ci index : Nat} (hin : ∀ q ∈ u_ws C T N, q ∈ Ts) (ty0 : Nat → FieldType) (hty : ∀ k, k < N → parseFieldDescriptor (T k).2.2.1 = some (ty0 k)) (hnm : ∀ a, a < N → ∀ b, b < N → a ≠ b → (T a).2.1 ≠ (T b).2.1) (q0 : Nat) {fs : List Value} (he : w[q0]? = some (a, .inr (ci, fs))) (hc : vwCl[ci]? = some (C, T, N)) (k : Nat) (hk : k < N) (hlink : Cond.fieldLink own index ref (T k).2.1 (T k).2.2.1 ∈ Ts) (hsame : (T k).1 = ref) (hfin : (T k).2.2.2 = false) {ty : FieldType} {v : Value} (hd : parseFieldDescriptor (T k).2.2.1 = some ty) (hn : narrow ty v = v) (hfit : fits ty v = true) (hl : k < fs.length) (hw' : w.set q0 (a, .inr (ci, fs.set k v)) = w') (hdg : decode cc pc = .ok (.putfield index, 3))
    (kk : ∀ (H1 : Heap) (locs1 : List Loc), Wd G w' A s H1 locs1 → W p l e R s m args below meth c H1 locs1 cells slots Q (F0 m (pc + 3) ls rest)) : W p l e R s m args below meth c H locs cells slots Q (F0 m pc ls (v :: .ref a :: rest)) := by
  obtain ⟨hK, hP, hD, hS, hA⟩ := hw
  exact va_put (D := G.1) (cl := vwCl) F.1 F.2.1 F.2.2.2.2 hin ty0 hty hnm F.2.2.2.1 hK hP hD hS q0 he hc k hk (F.2.2.2.2 _ hlink) (fun x h => by rw [← hsame]; exact h) hfin hd hn hfit hl hdg fun H1 locs1 h1 h2 h3 => kk H1 locs1 ⟨hK, hw' ▸ h1, hw' ▸ h2, h3, hA⟩
theorem k_iret (F : CallFix p m c cc nL s args Ts own) (hr : meth.sig.returnType = some .int) (hlk : meth.locks = false) (hw : Wd G w A s H locs) {v : Int32} {mc ms : Nat} (hc : cells ≤ mc) (hs : slots ≤ ms) (hdg : decode cc pc = .ok (.ireturn, 1)) : W p l e R s m args below meth c H locs cells slots (KQI G below args s A w v mc ms) (F0 m pc ls [.int v]) := by
  obtain ⟨hK, hP, hD, hS, hA⟩ := hw
  refine W.widen hc hs ?_
  exact W.iret F.1 F.2.1 hr (fun t ht hW => ⟨⟨v, (), rfl, rfl, ⟨by rw [ht]; exact hP, hD⟩⟩, hS.F ht⟩) hS.2.2 hdg hlk
theorem k_zret (F : CallFix p m c cc nL s args Ts own) {ty : FieldType} (hr : meth.sig.returnType = some ty) (hlk : meth.locks = false) (hw : Wd G w A s H locs) {v : Int32} {mc ms : Nat} (hn : narrow ty (.int v) = .int v) (hc : cells ≤ mc) (hs : slots ≤ ms) (hdg : decode cc pc = .ok (.ireturn, 1)) : W p l e R s m args below meth c H locs cells slots (KQI G below args s A w v mc ms) (F0 m pc ls [.int v]) := by
  obtain ⟨hK, hP, hD, hS, hA⟩ := hw
  refine W.widen hc hs ?_
  exact W.zret F.1 F.2.1 hr hn (fun t ht hW => ⟨⟨v, (), rfl, rfl, ⟨by rw [ht]; exact hP, hD⟩⟩, hS.F ht⟩) hS.2.2 hdg hlk
theorem k_lret (F : CallFix p m c cc nL s args Ts own) (hr : meth.sig.returnType = some .long) (hlk : meth.locks = false) (hw : Wd G w A s H locs) {v : Int64} {mc ms : Nat} (hc : cells ≤ mc) (hs : slots ≤ ms) (hdg : decode cc pc = .ok (.lreturn, 1)) : W p l e R s m args below meth c H locs cells slots (KQJ G below args s A w v mc ms) (F0 m pc ls [.long v]) := by
  obtain ⟨hK, hP, hD, hS, hA⟩ := hw
  refine W.widen hc hs ?_
  exact W.lret F.1 F.2.1 hr (fun t ht hW => ⟨⟨v, (), rfl, rfl, ⟨by rw [ht]; exact hP, hD⟩⟩, hS.F ht⟩) hS.2.2 hdg hlk
theorem k_vret (F : CallFix p m c cc nL s args Ts own) (hr : meth.sig.returnType = none) (hlk : meth.locks = false) (hw : Wd G w A s H locs) {mc ms : Nat} (hc : cells ≤ mc) (hs : slots ≤ ms) (hdg : decode cc pc = .ok (.return_, 1)) : W p l e R s m args below meth c H locs cells slots (KQV G below args s A w mc ms) (F0 m pc ls []) := by
  obtain ⟨hK, hP, hD, hS, hA⟩ := hw
  refine W.widen hc hs ?_
  exact W.vret F.1 F.2.1 hr (fun t ht hW => ⟨⟨(), rfl, trivial, ⟨by rw [ht]; exact hP, hD⟩⟩, hS.F ht⟩) hS.2.2 hdg hlk
theorem k_mmax (F : CallFix p m c cc nL s args Ts own) (hT : ∀ q ∈ BIG, q ∈ Ts) {index : Nat} (hl : Cond.methodLink own index Lib.Math.max.name ∈ BIG) (h1 : Cond.static Lib.Math.max.name ∈ BIG ∧ Cond.initialized "java/lang/Math" ∈ BIG ∧ Cond.code Lib.Math.max.name Lib.Math.max.code 2 (some .int) ∈ BIG) (hls : ls.size = nL) (hR : 1 ≤ R.frames ∧ (rest.map fun v => v.category).sum + 13 ≤ R.locals ∧ cells ≤ R.cells ∧ slots ≤ R.slots) {x y : Int32} (hdg : decode cc pc = .ok (.invokestatic index, 3))
    (kk : W p l e R s m args below meth c H locs cells slots Q (F0 m (pc + 3) ls (.int (if x < y then y else x) :: rest))) : W p l e R s m args below meth c H locs cells slots Q (F0 m pc ls (.int y :: .int x :: rest)) :=
  va_mmax F.1 F.2.1 (by rw [F.2.2.1, hls]) F.2.2.2.1 (F.2.2.2.2 _ (hT _ hl)) (F.2.2.2.2 _ (hT _ h1.1)) (F.2.2.2.2 _ (hT _ h1.2.1)) (F.2.2.2.2 _ (hT _ h1.2.2)) hR.1 hR.2.1 hR.2.2.1 hR.2.2.2 hdg kk
theorem k_mmin (F : CallFix p m c cc nL s args Ts own) (hT : ∀ q ∈ BIG, q ∈ Ts) {index : Nat} (hl : Cond.methodLink own index Lib.Math.min.name ∈ BIG) (h1 : Cond.static Lib.Math.min.name ∈ BIG ∧ Cond.initialized "java/lang/Math" ∈ BIG ∧ Cond.code Lib.Math.min.name Lib.Math.min.code 2 (some .int) ∈ BIG) (hls : ls.size = nL) (hR : 1 ≤ R.frames ∧ (rest.map fun v => v.category).sum + 13 ≤ R.locals ∧ cells ≤ R.cells ∧ slots ≤ R.slots) {x y : Int32} (hdg : decode cc pc = .ok (.invokestatic index, 3))
    (kk : W p l e R s m args below meth c H locs cells slots Q (F0 m (pc + 3) ls (.int (if y < x then y else x) :: rest))) : W p l e R s m args below meth c H locs cells slots Q (F0 m pc ls (.int y :: .int x :: rest)) :=
  va_mmin F.1 F.2.1 (by rw [F.2.2.1, hls]) F.2.2.2.1 (F.2.2.2.2 _ (hT _ hl)) (F.2.2.2.2 _ (hT _ h1.1)) (F.2.2.2.2 _ (hT _ h1.2.1)) (F.2.2.2.2 _ (hT _ h1.2.2)) hR.1 hR.2.1 hR.2.2.1 hR.2.2.2 hdg kk
theorem k_callVi (F : CallFix p m c cc nL s args Ts own) (hT : ∀ q ∈ BIG, q ∈ Ts) {y : MethodName} {bytes : ByteArray} {mL : Nat} {ret : Option FieldType} {fr mc ms lo : Nat} {As : List Value} {index nn : Nat} {b : Nat} {ci : Nat} {fs : List Value} {T : u_T} {N : Nat} {w1 w2 wl wr : va_W} {rv : Int32} {st0 : List Value} (hM : MetI G l y bytes mL ret fr mc ms lo (.ref b :: As) w1 w2 rv) (hc : CalV y bytes mL ret nn) (hl : Cond.methodLink own index y ∈ BIG) (hw : Wd G (wl ++ (w1 ++ wr)) A s H locs) (q0 : Nat) (he : w1[q0]? = some (b, .inr (ci, fs))) (hci : vwCl[ci]? = some (y.cls, T, N)) (hn : As.length = nn) (hls : ls.size = nL) (hst : st0 = As.reverse ++ .ref b :: rest) (hcat : (rest.map fun v => v.category).sum ≤ 8) (hR : fr + 1 ≤ R.frames ∧ 8 + (mL + 11) + lo ≤ R.locals) (hf : cells + mc ≤ R.cells ∧ slots + ms ≤ R.slots) (hdg : decode cc pc = .ok (.invokevirtual index, 3))
    (kk : ∀ (H1 : Heap) (locs1 : List Loc), Wd G (wl ++ (w2 ++ wr)) A s H1 locs1 → W p l e R s m args below meth c H1 locs1 (cells + mc) (slots + ms) Q (F0 m (pc + 3) ls (.int rv :: rest))) : W p l e R s m args below meth c H locs cells slots Q (F0 m pc ls st0) := by
  obtain ⟨hK, hP, hD, hS, hA⟩ := hw
  have hP1 : va_P G.1 vwCl w1 H := k_Pl (k_Pr hP)
  have hD1 : va_D A w1 := k_Dl (k_Dr hD)
  have hF : ∀ q, va_A w1 H.size q → A q := fun q h => by
    rcases h with ⟨k, e, h⟩ | h
    · exact hD1.2 k _ h
    · exact hA q (Nat.le_trans hS.1 h)
  subst hst
  refine va_calli (va_runV (As := As) (rest := rest) F (hM H.size) (k_cwV (rm := rmk fr mc ms lo) F.2.2.2.2 hT hl hc hR) ⟨k_blind, va_recv hK hP1 hci he, fun U hU hW => ⟨rfl, by rw [hU], by rw [hU]; exact hP1, va_K.moved hW.alike hK, hD1.weaken (fun _ _ _ _ => trivial)⟩⟩ rfl hn hls rfl (lv_room hcat) hdg hf) hS (fun q _ h => hF q h) hF (fun r u t H1 locs1 ht hvm hpost hB hz1 hk1 hS1 => ?_)
  subst hpost
  obtain ⟨hP2, hD2⟩ := hB
  rw [ht] at hP2
  obtain ⟨h1, h2⟩ := k_frame hP hD hk1 hF hP2 hD2
  exact kk H1 locs1 ⟨hK, h1, h2, hS1, hA⟩
theorem k_callVi' (F : CallFix p m c cc nL s args Ts own) (hT : ∀ q ∈ BIG, q ∈ Ts) {y : MethodName} {bytes : ByteArray} {mL : Nat} {ret : Option FieldType} {fr mc ms lo : Nat} {As : List Value} {index nn : Nat} {b : Nat} {ci : Nat} {fs : List Value} {T : u_T} {N : Nat} {w1 w2 : va_W} {rv : Int32} {st0 : List Value} (hM : MetI G l y bytes mL ret fr mc ms lo (.ref b :: As) w1 w2 rv) (hc : CalV y bytes mL ret nn) (hl : Cond.methodLink own index y ∈ BIG) (hw : Wd G w1 A s H locs) (q0 : Nat) (he : w1[q0]? = some (b, .inr (ci, fs))) (hci : vwCl[ci]? = some (y.cls, T, N)) (hn : As.length = nn) (hls : ls.size = nL) (hst : st0 = As.reverse ++ .ref b :: rest) (hcat : (rest.map fun v => v.category).sum ≤ 8) (hR : fr + 1 ≤ R.frames ∧ 8 + (mL + 11) + lo ≤ R.locals) (hf : cells + mc ≤ R.cells ∧ slots + ms ≤ R.slots) (hdg : decode cc pc = .ok (.invokevirtual index, 3))
    (kk : ∀ (H1 : Heap) (locs1 : List Loc), Wd G w2 A s H1 locs1 → W p l e R s m args below meth c H1 locs1 (cells + mc) (slots + ms) Q (F0 m (pc + 3) ls (.int rv :: rest))) : W p l e R s m args below meth c H locs cells slots Q (F0 m pc ls st0) :=
  k_callVi (wl := []) (wr := []) F hT hM hc hl (by rw [List.append_nil]; exact hw) q0 he hci hn hls hst hcat hR hf hdg (fun H1 locs1 h => kk H1 locs1 (by rw [List.append_nil] at h; exact h))
theorem k_callSi (F : CallFix p m c cc nL s args Ts own) (hT : ∀ q ∈ BIG, q ∈ Ts) {y : MethodName} {bytes : ByteArray} {mL : Nat} {ret : Option FieldType} {fr mc ms lo : Nat} {As : List Value} {index nn : Nat} {w1 w2 wl wr : va_W} {rv : Int32} {st0 : List Value} (hM : MetI G l y bytes mL ret fr mc ms lo As w1 w2 rv) (hc : CalS y bytes mL ret nn) (hl : Cond.methodLink own index y ∈ BIG) (hw : Wd G (wl ++ (w1 ++ wr)) A s H locs) (hn : As.length = nn) (hls : ls.size = nL) (hst : st0 = As.reverse ++ rest) (hcat : (rest.map fun v => v.category).sum ≤ 8) (hR : fr + 1 ≤ R.frames ∧ 8 + (mL + 11) + lo ≤ R.locals) (hf : cells + mc ≤ R.cells ∧ slots + ms ≤ R.slots) (hdg : decode cc pc = .ok (.invokestatic index, 3))
    (kk : ∀ (H1 : Heap) (locs1 : List Loc), Wd G (wl ++ (w2 ++ wr)) A s H1 locs1 → W p l e R s m args below meth c H1 locs1 (cells + mc) (slots + ms) Q (F0 m (pc + 3) ls (.int rv :: rest))) : W p l e R s m args below meth c H locs cells slots Q (F0 m pc ls st0) := by
  obtain ⟨hK, hP, hD, hS, hA⟩ := hw
  have hP1 : va_P G.1 vwCl w1 H := k_Pl (k_Pr hP)
  have hD1 : va_D A w1 := k_Dl (k_Dr hD)
  have hF : ∀ q, va_A w1 H.size q → A q := fun q h => by
    rcases h with ⟨k, e, h⟩ | h
    · exact hD1.2 k _ h
    · exact hA q (Nat.le_trans hS.1 h)
  subst hst
  refine va_calli (va_runS (As := As) (rest := rest) F (hM H.size) (k_cwS (rm := rmk fr mc ms lo) F.2.2.2.2 hT hl hc hR) ⟨k_blind, fun U hU hW => ⟨rfl, by rw [hU], by rw [hU]; exact hP1, va_K.moved hW.alike hK, hD1.weaken (fun _ _ _ _ => trivial)⟩⟩ rfl hn hls rfl (lv_room hcat) hdg hf) hS (fun q _ h => hF q h) hF (fun r u t H1 locs1 ht hvm hpost hB hz1 hk1 hS1 => ?_)
  subst hpost
  obtain ⟨hP2, hD2⟩ := hB
  rw [ht] at hP2
  obtain ⟨h1, h2⟩ := k_frame hP hD hk1 hF hP2 hD2
  exact kk H1 locs1 ⟨hK, h1, h2, hS1, hA⟩
theorem k_callSi' (F : CallFix p m c cc nL s args Ts own) (hT : ∀ q ∈ BIG, q ∈ Ts) {y : MethodName} {bytes : ByteArray} {mL : Nat} {ret : Option FieldType} {fr mc ms lo : Nat} {As : List Value} {index nn : Nat} {w1 w2 : va_W} {rv : Int32} {st0 : List Value} (hM : MetI G l y bytes mL ret fr mc ms lo As w1 w2 rv) (hc : CalS y bytes mL ret nn) (hl : Cond.methodLink own index y ∈ BIG) (hw : Wd G w1 A s H locs) (hn : As.length = nn) (hls : ls.size = nL) (hst : st0 = As.reverse ++ rest) (hcat : (rest.map fun v => v.category).sum ≤ 8) (hR : fr + 1 ≤ R.frames ∧ 8 + (mL + 11) + lo ≤ R.locals) (hf : cells + mc ≤ R.cells ∧ slots + ms ≤ R.slots) (hdg : decode cc pc = .ok (.invokestatic index, 3))
    (kk : ∀ (H1 : Heap) (locs1 : List Loc), Wd G w2 A s H1 locs1 → W p l e R s m args below meth c H1 locs1 (cells + mc) (slots + ms) Q (F0 m (pc + 3) ls (.int rv :: rest))) : W p l e R s m args below meth c H locs cells slots Q (F0 m pc ls st0) :=
  k_callSi (wl := []) (wr := []) F hT hM hc hl (by rw [List.append_nil]; exact hw) hn hls hst hcat hR hf hdg (fun H1 locs1 h => kk H1 locs1 (by rw [List.append_nil] at h; exact h))
theorem k_callPi (F : CallFix p m c cc nL s args Ts own) (hT : ∀ q ∈ BIG, q ∈ Ts) {y : MethodName} {bytes : ByteArray} {mL : Nat} {ret : Option FieldType} {fr mc ms lo : Nat} {As : List Value} {index nn : Nat} {rv : Int32} {st0 : List Value} (hM : MetI G l y bytes mL ret fr mc ms lo As [] [] rv) (hc : CalS y bytes mL ret nn) (hl : Cond.methodLink own index y ∈ BIG) (hw : Wd G w A s H locs) (hn : As.length = nn) (hls : ls.size = nL) (hst : st0 = As.reverse ++ rest) (hcat : (rest.map fun v => v.category).sum ≤ 8) (hR : fr + 1 ≤ R.frames ∧ 8 + (mL + 11) + lo ≤ R.locals) (hf : cells + mc ≤ R.cells ∧ slots + ms ≤ R.slots) (hdg : decode cc pc = .ok (.invokestatic index, 3))
    (kk : ∀ (H1 : Heap) (locs1 : List Loc), Wd G w A s H1 locs1 → W p l e R s m args below meth c H1 locs1 (cells + mc) (slots + ms) Q (F0 m (pc + 3) ls (.int rv :: rest))) : W p l e R s m args below meth c H locs cells slots Q (F0 m pc ls st0) :=
  k_callSi (wl := []) (w1 := []) (w2 := []) (wr := w) F hT hM hc hl hw hn hls hst hcat hR hf hdg kk
theorem k_callVj (F : CallFix p m c cc nL s args Ts own) (hT : ∀ q ∈ BIG, q ∈ Ts) {y : MethodName} {bytes : ByteArray} {mL : Nat} {ret : Option FieldType} {fr mc ms lo : Nat} {As : List Value} {index nn : Nat} {b : Nat} {ci : Nat} {fs : List Value} {T : u_T} {N : Nat} {w1 w2 wl wr : va_W} {rv : Int64} {st0 : List Value} (hM : MetJ G l y bytes mL ret fr mc ms lo (.ref b :: As) w1 w2 rv) (hc : CalV y bytes mL ret nn) (hl : Cond.methodLink own index y ∈ BIG) (hw : Wd G (wl ++ (w1 ++ wr)) A s H locs) (q0 : Nat) (he : w1[q0]? = some (b, .inr (ci, fs))) (hci : vwCl[ci]? = some (y.cls, T, N)) (hn : As.length = nn) (hls : ls.size = nL) (hst : st0 = As.reverse ++ .ref b :: rest) (hcat : (rest.map fun v => v.category).sum ≤ 8) (hR : fr + 1 ≤ R.frames ∧ 8 + (mL + 11) + lo ≤ R.locals) (hf : cells + mc ≤ R.cells ∧ slots + ms ≤ R.slots) (hdg : decode cc pc = .ok (.invokevirtual index, 3))
    (kk : ∀ (H1 : Heap) (locs1 : List Loc), Wd G (wl ++ (w2 ++ wr)) A s H1 locs1 → W p l e R s m args below meth c H1 locs1 (cells + mc) (slots + ms) Q (F0 m (pc + 3) ls (.long rv :: rest))) : W p l e R s m args below meth c H locs cells slots Q (F0 m pc ls st0) := by
  obtain ⟨hK, hP, hD, hS, hA⟩ := hw
  have hP1 : va_P G.1 vwCl w1 H := k_Pl (k_Pr hP)
  have hD1 : va_D A w1 := k_Dl (k_Dr hD)
  have hF : ∀ q, va_A w1 H.size q → A q := fun q h => by
    rcases h with ⟨k, e, h⟩ | h
    · exact hD1.2 k _ h
    · exact hA q (Nat.le_trans hS.1 h)
  subst hst
  refine va_calll (va_runV (As := As) (rest := rest) F (hM H.size) (k_cwV (rm := rmk fr mc ms lo) F.2.2.2.2 hT hl hc hR) ⟨k_blind, va_recv hK hP1 hci he, fun U hU hW => ⟨rfl, by rw [hU], by rw [hU]; exact hP1, va_K.moved hW.alike hK, hD1.weaken (fun _ _ _ _ => trivial)⟩⟩ rfl hn hls rfl (lv_room hcat) hdg hf) hS (fun q _ h => hF q h) hF (fun r u t H1 locs1 ht hvm hpost hB hz1 hk1 hS1 => ?_)
  subst hpost
  obtain ⟨hP2, hD2⟩ := hB
  rw [ht] at hP2
  obtain ⟨h1, h2⟩ := k_frame hP hD hk1 hF hP2 hD2
  exact kk H1 locs1 ⟨hK, h1, h2, hS1, hA⟩
theorem k_callVj' (F : CallFix p m c cc nL s args Ts own) (hT : ∀ q ∈ BIG, q ∈ Ts) {y : MethodName} {bytes : ByteArray} {mL : Nat} {ret : Option FieldType} {fr mc ms lo : Nat} {As : List Value} {index nn : Nat} {b : Nat} {ci : Nat} {fs : List Value} {T : u_T} {N : Nat} {w1 w2 : va_W} {rv : Int64} {st0 : List Value} (hM : MetJ G l y bytes mL ret fr mc ms lo (.ref b :: As) w1 w2 rv) (hc : CalV y bytes mL ret nn) (hl : Cond.methodLink own index y ∈ BIG) (hw : Wd G w1 A s H locs) (q0 : Nat) (he : w1[q0]? = some (b, .inr (ci, fs))) (hci : vwCl[ci]? = some (y.cls, T, N)) (hn : As.length = nn) (hls : ls.size = nL) (hst : st0 = As.reverse ++ .ref b :: rest) (hcat : (rest.map fun v => v.category).sum ≤ 8) (hR : fr + 1 ≤ R.frames ∧ 8 + (mL + 11) + lo ≤ R.locals) (hf : cells + mc ≤ R.cells ∧ slots + ms ≤ R.slots) (hdg : decode cc pc = .ok (.invokevirtual index, 3))
    (kk : ∀ (H1 : Heap) (locs1 : List Loc), Wd G w2 A s H1 locs1 → W p l e R s m args below meth c H1 locs1 (cells + mc) (slots + ms) Q (F0 m (pc + 3) ls (.long rv :: rest))) : W p l e R s m args below meth c H locs cells slots Q (F0 m pc ls st0) :=
  k_callVj (wl := []) (wr := []) F hT hM hc hl (by rw [List.append_nil]; exact hw) q0 he hci hn hls hst hcat hR hf hdg (fun H1 locs1 h => kk H1 locs1 (by rw [List.append_nil] at h; exact h))
theorem k_callSj (F : CallFix p m c cc nL s args Ts own) (hT : ∀ q ∈ BIG, q ∈ Ts) {y : MethodName} {bytes : ByteArray} {mL : Nat} {ret : Option FieldType} {fr mc ms lo : Nat} {As : List Value} {index nn : Nat} {w1 w2 wl wr : va_W} {rv : Int64} {st0 : List Value} (hM : MetJ G l y bytes mL ret fr mc ms lo As w1 w2 rv) (hc : CalS y bytes mL ret nn) (hl : Cond.methodLink own index y ∈ BIG) (hw : Wd G (wl ++ (w1 ++ wr)) A s H locs) (hn : As.length = nn) (hls : ls.size = nL) (hst : st0 = As.reverse ++ rest) (hcat : (rest.map fun v => v.category).sum ≤ 8) (hR : fr + 1 ≤ R.frames ∧ 8 + (mL + 11) + lo ≤ R.locals) (hf : cells + mc ≤ R.cells ∧ slots + ms ≤ R.slots) (hdg : decode cc pc = .ok (.invokestatic index, 3))
    (kk : ∀ (H1 : Heap) (locs1 : List Loc), Wd G (wl ++ (w2 ++ wr)) A s H1 locs1 → W p l e R s m args below meth c H1 locs1 (cells + mc) (slots + ms) Q (F0 m (pc + 3) ls (.long rv :: rest))) : W p l e R s m args below meth c H locs cells slots Q (F0 m pc ls st0) := by
  obtain ⟨hK, hP, hD, hS, hA⟩ := hw
  have hP1 : va_P G.1 vwCl w1 H := k_Pl (k_Pr hP)
  have hD1 : va_D A w1 := k_Dl (k_Dr hD)
  have hF : ∀ q, va_A w1 H.size q → A q := fun q h => by
    rcases h with ⟨k, e, h⟩ | h
    · exact hD1.2 k _ h
    · exact hA q (Nat.le_trans hS.1 h)
  subst hst
  refine va_calll (va_runS (As := As) (rest := rest) F (hM H.size) (k_cwS (rm := rmk fr mc ms lo) F.2.2.2.2 hT hl hc hR) ⟨k_blind, fun U hU hW => ⟨rfl, by rw [hU], by rw [hU]; exact hP1, va_K.moved hW.alike hK, hD1.weaken (fun _ _ _ _ => trivial)⟩⟩ rfl hn hls rfl (lv_room hcat) hdg hf) hS (fun q _ h => hF q h) hF (fun r u t H1 locs1 ht hvm hpost hB hz1 hk1 hS1 => ?_)
  subst hpost
  obtain ⟨hP2, hD2⟩ := hB
  rw [ht] at hP2
  obtain ⟨h1, h2⟩ := k_frame hP hD hk1 hF hP2 hD2
  exact kk H1 locs1 ⟨hK, h1, h2, hS1, hA⟩
theorem k_callSj' (F : CallFix p m c cc nL s args Ts own) (hT : ∀ q ∈ BIG, q ∈ Ts) {y : MethodName} {bytes : ByteArray} {mL : Nat} {ret : Option FieldType} {fr mc ms lo : Nat} {As : List Value} {index nn : Nat} {w1 w2 : va_W} {rv : Int64} {st0 : List Value} (hM : MetJ G l y bytes mL ret fr mc ms lo As w1 w2 rv) (hc : CalS y bytes mL ret nn) (hl : Cond.methodLink own index y ∈ BIG) (hw : Wd G w1 A s H locs) (hn : As.length = nn) (hls : ls.size = nL) (hst : st0 = As.reverse ++ rest) (hcat : (rest.map fun v => v.category).sum ≤ 8) (hR : fr + 1 ≤ R.frames ∧ 8 + (mL + 11) + lo ≤ R.locals) (hf : cells + mc ≤ R.cells ∧ slots + ms ≤ R.slots) (hdg : decode cc pc = .ok (.invokestatic index, 3))
    (kk : ∀ (H1 : Heap) (locs1 : List Loc), Wd G w2 A s H1 locs1 → W p l e R s m args below meth c H1 locs1 (cells + mc) (slots + ms) Q (F0 m (pc + 3) ls (.long rv :: rest))) : W p l e R s m args below meth c H locs cells slots Q (F0 m pc ls st0) :=
  k_callSj (wl := []) (wr := []) F hT hM hc hl (by rw [List.append_nil]; exact hw) hn hls hst hcat hR hf hdg (fun H1 locs1 h => kk H1 locs1 (by rw [List.append_nil] at h; exact h))
theorem k_callPj (F : CallFix p m c cc nL s args Ts own) (hT : ∀ q ∈ BIG, q ∈ Ts) {y : MethodName} {bytes : ByteArray} {mL : Nat} {ret : Option FieldType} {fr mc ms lo : Nat} {As : List Value} {index nn : Nat} {rv : Int64} {st0 : List Value} (hM : MetJ G l y bytes mL ret fr mc ms lo As [] [] rv) (hc : CalS y bytes mL ret nn) (hl : Cond.methodLink own index y ∈ BIG) (hw : Wd G w A s H locs) (hn : As.length = nn) (hls : ls.size = nL) (hst : st0 = As.reverse ++ rest) (hcat : (rest.map fun v => v.category).sum ≤ 8) (hR : fr + 1 ≤ R.frames ∧ 8 + (mL + 11) + lo ≤ R.locals) (hf : cells + mc ≤ R.cells ∧ slots + ms ≤ R.slots) (hdg : decode cc pc = .ok (.invokestatic index, 3))
    (kk : ∀ (H1 : Heap) (locs1 : List Loc), Wd G w A s H1 locs1 → W p l e R s m args below meth c H1 locs1 (cells + mc) (slots + ms) Q (F0 m (pc + 3) ls (.long rv :: rest))) : W p l e R s m args below meth c H locs cells slots Q (F0 m pc ls st0) :=
  k_callSj (wl := []) (w1 := []) (w2 := []) (wr := w) F hT hM hc hl hw hn hls hst hcat hR hf hdg kk
theorem k_callVv (F : CallFix p m c cc nL s args Ts own) (hT : ∀ q ∈ BIG, q ∈ Ts) {y : MethodName} {bytes : ByteArray} {mL : Nat} {ret : Option FieldType} {fr mc ms lo : Nat} {As : List Value} {index nn : Nat} {b : Nat} {ci : Nat} {fs : List Value} {T : u_T} {N : Nat} {w1 w2 wl wr : va_W} {st0 : List Value} (hM : MetV G l y bytes mL ret fr mc ms lo (.ref b :: As) w1 w2) (hc : CalV y bytes mL ret nn) (hl : Cond.methodLink own index y ∈ BIG) (hw : Wd G (wl ++ (w1 ++ wr)) A s H locs) (q0 : Nat) (he : w1[q0]? = some (b, .inr (ci, fs))) (hci : vwCl[ci]? = some (y.cls, T, N)) (hn : As.length = nn) (hls : ls.size = nL) (hst : st0 = As.reverse ++ .ref b :: rest) (hcat : (rest.map fun v => v.category).sum ≤ 8) (hR : fr + 1 ≤ R.frames ∧ 8 + (mL + 11) + lo ≤ R.locals) (hf : cells + mc ≤ R.cells ∧ slots + ms ≤ R.slots) (hdg : decode cc pc = .ok (.invokevirtual index, 3))
    (kk : ∀ (H1 : Heap) (locs1 : List Loc), Wd G (wl ++ (w2 ++ wr)) A s H1 locs1 → W p l e R s m args below meth c H1 locs1 (cells + mc) (slots + ms) Q (F0 m (pc + 3) ls (rest))) : W p l e R s m args below meth c H locs cells slots Q (F0 m pc ls st0) := by
  obtain ⟨hK, hP, hD, hS, hA⟩ := hw
  have hP1 : va_P G.1 vwCl w1 H := k_Pl (k_Pr hP)
  have hD1 : va_D A w1 := k_Dl (k_Dr hD)
  have hF : ∀ q, va_A w1 H.size q → A q := fun q h => by
    rcases h with ⟨k, e, h⟩ | h
    · exact hD1.2 k _ h
    · exact hA q (Nat.le_trans hS.1 h)
  subst hst
  refine va_callv (va_runV (As := As) (rest := rest) F (hM H.size) (k_cwV (rm := rmk fr mc ms lo) F.2.2.2.2 hT hl hc hR) ⟨k_blind, va_recv hK hP1 hci he, fun U hU hW => ⟨rfl, by rw [hU], by rw [hU]; exact hP1, va_K.moved hW.alike hK, hD1.weaken (fun _ _ _ _ => trivial)⟩⟩ rfl hn hls rfl (lv_room hcat) hdg hf) hS (fun q _ h => hF q h) hF (fun u t H1 locs1 ht hvm hpost hB hz1 hk1 hS1 => ?_)
  skip
  obtain ⟨hP2, hD2⟩ := hB
  rw [ht] at hP2
  obtain ⟨h1, h2⟩ := k_frame hP hD hk1 hF hP2 hD2
  exact kk H1 locs1 ⟨hK, h1, h2, hS1, hA⟩
theorem k_callVv' (F : CallFix p m c cc nL s args Ts own) (hT : ∀ q ∈ BIG, q ∈ Ts) {y : MethodName} {bytes : ByteArray} {mL : Nat} {ret : Option FieldType} {fr mc ms lo : Nat} {As : List Value} {index nn : Nat} {b : Nat} {ci : Nat} {fs : List Value} {T : u_T} {N : Nat} {w1 w2 : va_W} {st0 : List Value} (hM : MetV G l y bytes mL ret fr mc ms lo (.ref b :: As) w1 w2) (hc : CalV y bytes mL ret nn) (hl : Cond.methodLink own index y ∈ BIG) (hw : Wd G w1 A s H locs) (q0 : Nat) (he : w1[q0]? = some (b, .inr (ci, fs))) (hci : vwCl[ci]? = some (y.cls, T, N)) (hn : As.length = nn) (hls : ls.size = nL) (hst : st0 = As.reverse ++ .ref b :: rest) (hcat : (rest.map fun v => v.category).sum ≤ 8) (hR : fr + 1 ≤ R.frames ∧ 8 + (mL + 11) + lo ≤ R.locals) (hf : cells + mc ≤ R.cells ∧ slots + ms ≤ R.slots) (hdg : decode cc pc = .ok (.invokevirtual index, 3))
    (kk : ∀ (H1 : Heap) (locs1 : List Loc), Wd G w2 A s H1 locs1 → W p l e R s m args below meth c H1 locs1 (cells + mc) (slots + ms) Q (F0 m (pc + 3) ls (rest))) : W p l e R s m args below meth c H locs cells slots Q (F0 m pc ls st0) :=
  k_callVv (wl := []) (wr := []) F hT hM hc hl (by rw [List.append_nil]; exact hw) q0 he hci hn hls hst hcat hR hf hdg (fun H1 locs1 h => kk H1 locs1 (by rw [List.append_nil] at h; exact h))
theorem k_callSv (F : CallFix p m c cc nL s args Ts own) (hT : ∀ q ∈ BIG, q ∈ Ts) {y : MethodName} {bytes : ByteArray} {mL : Nat} {ret : Option FieldType} {fr mc ms lo : Nat} {As : List Value} {index nn : Nat} {w1 w2 wl wr : va_W} {st0 : List Value} (hM : MetV G l y bytes mL ret fr mc ms lo As w1 w2) (hc : CalS y bytes mL ret nn) (hl : Cond.methodLink own index y ∈ BIG) (hw : Wd G (wl ++ (w1 ++ wr)) A s H locs) (hn : As.length = nn) (hls : ls.size = nL) (hst : st0 = As.reverse ++ rest) (hcat : (rest.map fun v => v.category).sum ≤ 8) (hR : fr + 1 ≤ R.frames ∧ 8 + (mL + 11) + lo ≤ R.locals) (hf : cells + mc ≤ R.cells ∧ slots + ms ≤ R.slots) (hdg : decode cc pc = .ok (.invokestatic index, 3))
    (kk : ∀ (H1 : Heap) (locs1 : List Loc), Wd G (wl ++ (w2 ++ wr)) A s H1 locs1 → W p l e R s m args below meth c H1 locs1 (cells + mc) (slots + ms) Q (F0 m (pc + 3) ls (rest))) : W p l e R s m args below meth c H locs cells slots Q (F0 m pc ls st0) := by
  obtain ⟨hK, hP, hD, hS, hA⟩ := hw
  have hP1 : va_P G.1 vwCl w1 H := k_Pl (k_Pr hP)
  have hD1 : va_D A w1 := k_Dl (k_Dr hD)
  have hF : ∀ q, va_A w1 H.size q → A q := fun q h => by
    rcases h with ⟨k, e, h⟩ | h
    · exact hD1.2 k _ h
    · exact hA q (Nat.le_trans hS.1 h)
  subst hst
  refine va_callv (va_runS (As := As) (rest := rest) F (hM H.size) (k_cwS (rm := rmk fr mc ms lo) F.2.2.2.2 hT hl hc hR) ⟨k_blind, fun U hU hW => ⟨rfl, by rw [hU], by rw [hU]; exact hP1, va_K.moved hW.alike hK, hD1.weaken (fun _ _ _ _ => trivial)⟩⟩ rfl hn hls rfl (lv_room hcat) hdg hf) hS (fun q _ h => hF q h) hF (fun u t H1 locs1 ht hvm hpost hB hz1 hk1 hS1 => ?_)
  skip
  obtain ⟨hP2, hD2⟩ := hB
  rw [ht] at hP2
  obtain ⟨h1, h2⟩ := k_frame hP hD hk1 hF hP2 hD2
  exact kk H1 locs1 ⟨hK, h1, h2, hS1, hA⟩
theorem k_callSv' (F : CallFix p m c cc nL s args Ts own) (hT : ∀ q ∈ BIG, q ∈ Ts) {y : MethodName} {bytes : ByteArray} {mL : Nat} {ret : Option FieldType} {fr mc ms lo : Nat} {As : List Value} {index nn : Nat} {w1 w2 : va_W} {st0 : List Value} (hM : MetV G l y bytes mL ret fr mc ms lo As w1 w2) (hc : CalS y bytes mL ret nn) (hl : Cond.methodLink own index y ∈ BIG) (hw : Wd G w1 A s H locs) (hn : As.length = nn) (hls : ls.size = nL) (hst : st0 = As.reverse ++ rest) (hcat : (rest.map fun v => v.category).sum ≤ 8) (hR : fr + 1 ≤ R.frames ∧ 8 + (mL + 11) + lo ≤ R.locals) (hf : cells + mc ≤ R.cells ∧ slots + ms ≤ R.slots) (hdg : decode cc pc = .ok (.invokestatic index, 3))
    (kk : ∀ (H1 : Heap) (locs1 : List Loc), Wd G w2 A s H1 locs1 → W p l e R s m args below meth c H1 locs1 (cells + mc) (slots + ms) Q (F0 m (pc + 3) ls (rest))) : W p l e R s m args below meth c H locs cells slots Q (F0 m pc ls st0) :=
  k_callSv (wl := []) (wr := []) F hT hM hc hl (by rw [List.append_nil]; exact hw) hn hls hst hcat hR hf hdg (fun H1 locs1 h => kk H1 locs1 (by rw [List.append_nil] at h; exact h))
theorem k_callPv (F : CallFix p m c cc nL s args Ts own) (hT : ∀ q ∈ BIG, q ∈ Ts) {y : MethodName} {bytes : ByteArray} {mL : Nat} {ret : Option FieldType} {fr mc ms lo : Nat} {As : List Value} {index nn : Nat} {st0 : List Value} (hM : MetV G l y bytes mL ret fr mc ms lo As [] []) (hc : CalS y bytes mL ret nn) (hl : Cond.methodLink own index y ∈ BIG) (hw : Wd G w A s H locs) (hn : As.length = nn) (hls : ls.size = nL) (hst : st0 = As.reverse ++ rest) (hcat : (rest.map fun v => v.category).sum ≤ 8) (hR : fr + 1 ≤ R.frames ∧ 8 + (mL + 11) + lo ≤ R.locals) (hf : cells + mc ≤ R.cells ∧ slots + ms ≤ R.slots) (hdg : decode cc pc = .ok (.invokestatic index, 3))
    (kk : ∀ (H1 : Heap) (locs1 : List Loc), Wd G w A s H1 locs1 → W p l e R s m args below meth c H1 locs1 (cells + mc) (slots + ms) Q (F0 m (pc + 3) ls (rest))) : W p l e R s m args below meth c H locs cells slots Q (F0 m pc ls st0) :=
  k_callSv (wl := []) (w1 := []) (w2 := []) (wr := w) F hT hM hc hl hw hn hls hst hcat hR hf hdg kk
end KITR
end
