section
-- ===== PART A: goes FIRST, ahead of the names: the tables' words, and 'selects' of the private methods out of them =====
/-- a private method of a class that the tables say can be made, by its rows of tables_1 -/
def lw_okq (q : MethodName × Nat) : Prop := (q.1.cls ≠ "java/lang/invoke/MethodHandle" ∧ q.1.cls ≠ "java/lang/invoke/VarHandle") ∧ Cond.instantiable q.1.cls q.2 ∈ tables_1 ∧ Cond.privateMethod q.1 ∈ tables_1 ∧ Cond.instanceMethod q.1 ∈ tables_1
theorem lw_p0 : lw_okq (⟨"CellKeeper", "beginAnew", "()V"⟩, 17) := ⟨⟨by decide +kernel, by decide +kernel⟩, List.mem_of_getElem? (i := 17) (by decide +kernel), List.mem_of_getElem? (i := 171) (by decide +kernel), List.mem_of_getElem? (i := 172) (by decide +kernel)⟩
theorem lw_p1 : lw_okq (⟨"CellKeeper$Blocks", "isGood", "(I)Z"⟩, 5) := ⟨⟨by decide +kernel, by decide +kernel⟩, List.mem_of_getElem? (i := 145) (by decide +kernel), List.mem_of_getElem? (i := 266) (by decide +kernel), List.mem_of_getElem? (i := 267) (by decide +kernel)⟩
theorem lw_p2 : lw_okq (⟨"CellKeeper$Blocks", "fetch", "(II)J"⟩, 5) := ⟨⟨by decide +kernel, by decide +kernel⟩, List.mem_of_getElem? (i := 145) (by decide +kernel), List.mem_of_getElem? (i := 274) (by decide +kernel), List.mem_of_getElem? (i := 275) (by decide +kernel)⟩
theorem lw_p3 : lw_okq (⟨"CellKeeper$Blocks", "placeOf", "(I)I"⟩, 5) := ⟨⟨by decide +kernel, by decide +kernel⟩, List.mem_of_getElem? (i := 145) (by decide +kernel), List.mem_of_getElem? (i := 280) (by decide +kernel), List.mem_of_getElem? (i := 281) (by decide +kernel)⟩
theorem lw_p4 : lw_okq (⟨"CellKeeper", "chargeOfParts", "(J)D"⟩, 17) := ⟨⟨by decide +kernel, by decide +kernel⟩, List.mem_of_getElem? (i := 17) (by decide +kernel), List.mem_of_getElem? (i := 301) (by decide +kernel), List.mem_of_getElem? (i := 302) (by decide +kernel)⟩
theorem lw_p5 : lw_okq (⟨"CellKeeper", "needChip", "(I)V"⟩, 17) := ⟨⟨by decide +kernel, by decide +kernel⟩, List.mem_of_getElem? (i := 17) (by decide +kernel), List.mem_of_getElem? (i := 333) (by decide +kernel), List.mem_of_getElem? (i := 334) (by decide +kernel)⟩
theorem lw_p6 : lw_okq (⟨"java/lang/Throwable", "fillInStackTrace", "(I)Ljava/lang/Throwable;"⟩, 6) := ⟨⟨by decide +kernel, by decide +kernel⟩, List.mem_of_getElem? (i := 378) (by decide +kernel), List.mem_of_getElem? (i := 376) (by decide +kernel), List.mem_of_getElem? (i := 377) (by decide +kernel)⟩
theorem lw_p7 : lw_okq (⟨"CellKeeper", "needPower", "()V"⟩, 17) := ⟨⟨by decide +kernel, by decide +kernel⟩, List.mem_of_getElem? (i := 17) (by decide +kernel), List.mem_of_getElem? (i := 407) (by decide +kernel), List.mem_of_getElem? (i := 408) (by decide +kernel)⟩
theorem lw_p8 : lw_okq (⟨"CellKeeper", "passOneTick", "()V"⟩, 17) := ⟨⟨by decide +kernel, by decide +kernel⟩, List.mem_of_getElem? (i := 17) (by decide +kernel), List.mem_of_getElem? (i := 505) (by decide +kernel), List.mem_of_getElem? (i := 506) (by decide +kernel)⟩
theorem lw_p9 : lw_okq (⟨"CellKeeper$Survey", "lookAtCells", "(LCellKeeper$Chip;)V"⟩, 7) := ⟨⟨by decide +kernel, by decide +kernel⟩, List.mem_of_getElem? (i := 73) (by decide +kernel), List.mem_of_getElem? (i := 520) (by decide +kernel), List.mem_of_getElem? (i := 521) (by decide +kernel)⟩
theorem lw_p10 : lw_okq (⟨"CellKeeper$Chip", "isStuck", "(I)Z"⟩, 8) := ⟨⟨by decide +kernel, by decide +kernel⟩, List.mem_of_getElem? (i := 35) (by decide +kernel), List.mem_of_getElem? (i := 529) (by decide +kernel), List.mem_of_getElem? (i := 530) (by decide +kernel)⟩
theorem lw_p11 : lw_okq (⟨"CellKeeper$Chip", "currentsSwing", "()Z"⟩, 8) := ⟨⟨by decide +kernel, by decide +kernel⟩, List.mem_of_getElem? (i := 35) (by decide +kernel), List.mem_of_getElem? (i := 533) (by decide +kernel), List.mem_of_getElem? (i := 534) (by decide +kernel)⟩
theorem lw_p12 : lw_okq (⟨"CellKeeper", "moveCharge", "()V"⟩, 17) := ⟨⟨by decide +kernel, by decide +kernel⟩, List.mem_of_getElem? (i := 17) (by decide +kernel), List.mem_of_getElem? (i := 540) (by decide +kernel), List.mem_of_getElem? (i := 541) (by decide +kernel)⟩
theorem lw_p13 : lw_okq (⟨"CellKeeper", "currentSize", "()D"⟩, 17) := ⟨⟨by decide +kernel, by decide +kernel⟩, List.mem_of_getElem? (i := 17) (by decide +kernel), List.mem_of_getElem? (i := 544) (by decide +kernel), List.mem_of_getElem? (i := 545) (by decide +kernel)⟩
theorem lw_p14 : lw_okq (⟨"CellKeeper", "tellAllowed", "()V"⟩, 17) := ⟨⟨by decide +kernel, by decide +kernel⟩, List.mem_of_getElem? (i := 17) (by decide +kernel), List.mem_of_getElem? (i := 562) (by decide +kernel), List.mem_of_getElem? (i := 563) (by decide +kernel)⟩
theorem lw_p15 : lw_okq (⟨"CellKeeper", "chargeShare", "(D)I"⟩, 17) := ⟨⟨by decide +kernel, by decide +kernel⟩, List.mem_of_getElem? (i := 17) (by decide +kernel), List.mem_of_getElem? (i := 581) (by decide +kernel), List.mem_of_getElem? (i := 582) (by decide +kernel)⟩
def lw_privs_1 : List (MethodName × Nat) := [(⟨"CellKeeper", "beginAnew", "()V"⟩, 17), (⟨"CellKeeper$Blocks", "isGood", "(I)Z"⟩, 5), (⟨"CellKeeper$Blocks", "fetch", "(II)J"⟩, 5), (⟨"CellKeeper$Blocks", "placeOf", "(I)I"⟩, 5), (⟨"CellKeeper", "chargeOfParts", "(J)D"⟩, 17), (⟨"CellKeeper", "needChip", "(I)V"⟩, 17), (⟨"java/lang/Throwable", "fillInStackTrace", "(I)Ljava/lang/Throwable;"⟩, 6), (⟨"CellKeeper", "needPower", "()V"⟩, 17), (⟨"CellKeeper", "passOneTick", "()V"⟩, 17), (⟨"CellKeeper$Survey", "lookAtCells", "(LCellKeeper$Chip;)V"⟩, 7), (⟨"CellKeeper$Chip", "isStuck", "(I)Z"⟩, 8), (⟨"CellKeeper$Chip", "currentsSwing", "()Z"⟩, 8), (⟨"CellKeeper", "moveCharge", "()V"⟩, 17), (⟨"CellKeeper", "currentSize", "()D"⟩, 17), (⟨"CellKeeper", "tellAllowed", "()V"⟩, 17), (⟨"CellKeeper", "chargeShare", "(D)I"⟩, 17)]
theorem lw_r1 : ∀ q ∈ lw_privs_1, lw_okq q := List.forall_mem_cons.mpr ⟨lw_p0, List.forall_mem_cons.mpr ⟨lw_p1, List.forall_mem_cons.mpr ⟨lw_p2, List.forall_mem_cons.mpr ⟨lw_p3, List.forall_mem_cons.mpr ⟨lw_p4, List.forall_mem_cons.mpr ⟨lw_p5, List.forall_mem_cons.mpr ⟨lw_p6, List.forall_mem_cons.mpr ⟨lw_p7, List.forall_mem_cons.mpr ⟨lw_p8, List.forall_mem_cons.mpr ⟨lw_p9, List.forall_mem_cons.mpr ⟨lw_p10, List.forall_mem_cons.mpr ⟨lw_p11, List.forall_mem_cons.mpr ⟨lw_p12, List.forall_mem_cons.mpr ⟨lw_p13, List.forall_mem_cons.mpr ⟨lw_p14, List.forall_mem_cons.mpr ⟨lw_p15, fun _ h => absurd h List.not_mem_nil⟩⟩⟩⟩⟩⟩⟩⟩⟩⟩⟩⟩⟩⟩⟩⟩
theorem lw_p16 : lw_okq (⟨"CellKeeper", "wholeCapacities", "(D)I"⟩, 17) := ⟨⟨by decide +kernel, by decide +kernel⟩, List.mem_of_getElem? (i := 17) (by decide +kernel), List.mem_of_getElem? (i := 586) (by decide +kernel), List.mem_of_getElem? (i := 587) (by decide +kernel)⟩
theorem lw_p17 : lw_okq (⟨"CellKeeper", "watchCauses", "()V"⟩, 17) := ⟨⟨by decide +kernel, by decide +kernel⟩, List.mem_of_getElem? (i := 17) (by decide +kernel), List.mem_of_getElem? (i := 591) (by decide +kernel), List.mem_of_getElem? (i := 592) (by decide +kernel)⟩
theorem lw_p18 : lw_okq (⟨"CellKeeper$Alarms", "isLatched", "(I)Z"⟩, 4) := ⟨⟨by decide +kernel, by decide +kernel⟩, List.mem_of_getElem? (i := 109) (by decide +kernel), List.mem_of_getElem? (i := 604) (by decide +kernel), List.mem_of_getElem? (i := 605) (by decide +kernel)⟩
theorem lw_p19 : lw_okq (⟨"CellKeeper$Contactors", "opened", "(ILCellKeeper$Survey;LCellKeeper$Alarms;)I"⟩, 2) := ⟨⟨by decide +kernel, by decide +kernel⟩, List.mem_of_getElem? (i := 131) (by decide +kernel), List.mem_of_getElem? (i := 618) (by decide +kernel), List.mem_of_getElem? (i := 619) (by decide +kernel)⟩
theorem lw_p20 : lw_okq (⟨"CellKeeper$Contactors", "precharged", "(ILCellKeeper$Survey;LCellKeeper$Alarms;)I"⟩, 2) := ⟨⟨by decide +kernel, by decide +kernel⟩, List.mem_of_getElem? (i := 131) (by decide +kernel), List.mem_of_getElem? (i := 623) (by decide +kernel), List.mem_of_getElem? (i := 624) (by decide +kernel)⟩
theorem lw_p21 : lw_okq (⟨"CellKeeper", "letBleed", "()V"⟩, 17) := ⟨⟨by decide +kernel, by decide +kernel⟩, List.mem_of_getElem? (i := 17) (by decide +kernel), List.mem_of_getElem? (i := 628) (by decide +kernel), List.mem_of_getElem? (i := 629) (by decide +kernel)⟩
theorem lw_p22 : lw_okq (⟨"CellKeeper", "writeBlock", "()V"⟩, 17) := ⟨⟨by decide +kernel, by decide +kernel⟩, List.mem_of_getElem? (i := 17) (by decide +kernel), List.mem_of_getElem? (i := 638) (by decide +kernel), List.mem_of_getElem? (i := 639) (by decide +kernel)⟩
theorem lw_p23 : lw_okq (⟨"CellKeeper$Blocks", "lay", "(IIJ)V"⟩, 5) := ⟨⟨by decide +kernel, by decide +kernel⟩, List.mem_of_getElem? (i := 145) (by decide +kernel), List.mem_of_getElem? (i := 646) (by decide +kernel), List.mem_of_getElem? (i := 647) (by decide +kernel)⟩
theorem lw_p24 : lw_okq (⟨"CellKeeperModel", "begin", "()V"⟩, 32) := ⟨⟨by decide +kernel, by decide +kernel⟩, List.mem_of_getElem? (i := 747) (by decide +kernel), List.mem_of_getElem? (i := 757) (by decide +kernel), List.mem_of_getElem? (i := 758) (by decide +kernel)⟩
theorem lw_p25 : lw_okq (⟨"CellKeeperModel", "isRight", "(I)Z"⟩, 32) := ⟨⟨by decide +kernel, by decide +kernel⟩, List.mem_of_getElem? (i := 747) (by decide +kernel), List.mem_of_getElem? (i := 762) (by decide +kernel), List.mem_of_getElem? (i := 763) (by decide +kernel)⟩
theorem lw_p26 : lw_okq (⟨"CellKeeperModel", "number", "(II)J"⟩, 32) := ⟨⟨by decide +kernel, by decide +kernel⟩, List.mem_of_getElem? (i := 747) (by decide +kernel), List.mem_of_getElem? (i := 769) (by decide +kernel), List.mem_of_getElem? (i := 770) (by decide +kernel)⟩
theorem lw_p27 : lw_okq (⟨"CellKeeperModel", "countCharge", "()V"⟩, 32) := ⟨⟨by decide +kernel, by decide +kernel⟩, List.mem_of_getElem? (i := 747) (by decide +kernel), List.mem_of_getElem? (i := 929) (by decide +kernel), List.mem_of_getElem? (i := 930) (by decide +kernel)⟩
theorem lw_p28 : lw_okq (⟨"CellKeeperModel", "areAllValid", "()Z"⟩, 32) := ⟨⟨by decide +kernel, by decide +kernel⟩, List.mem_of_getElem? (i := 747) (by decide +kernel), List.mem_of_getElem? (i := 939) (by decide +kernel), List.mem_of_getElem? (i := 940) (by decide +kernel)⟩
theorem lw_p29 : lw_okq (⟨"CellKeeperModel", "isValid", "(II)Z"⟩, 32) := ⟨⟨by decide +kernel, by decide +kernel⟩, List.mem_of_getElem? (i := 747) (by decide +kernel), List.mem_of_getElem? (i := 943) (by decide +kernel), List.mem_of_getElem? (i := 944) (by decide +kernel)⟩
theorem lw_p30 : lw_okq (⟨"CellKeeperModel", "isStale", "(I)Z"⟩, 32) := ⟨⟨by decide +kernel, by decide +kernel⟩, List.mem_of_getElem? (i := 747) (by decide +kernel), List.mem_of_getElem? (i := 947) (by decide +kernel), List.mem_of_getElem? (i := 948) (by decide +kernel)⟩
theorem lw_p31 : lw_okq (⟨"CellKeeperModel", "numberOf", "(III)I"⟩, 32) := ⟨⟨by decide +kernel, by decide +kernel⟩, List.mem_of_getElem? (i := 747) (by decide +kernel), List.mem_of_getElem? (i := 951) (by decide +kernel), List.mem_of_getElem? (i := 952) (by decide +kernel)⟩
def lw_privs_2 : List (MethodName × Nat) := [(⟨"CellKeeper", "wholeCapacities", "(D)I"⟩, 17), (⟨"CellKeeper", "watchCauses", "()V"⟩, 17), (⟨"CellKeeper$Alarms", "isLatched", "(I)Z"⟩, 4), (⟨"CellKeeper$Contactors", "opened", "(ILCellKeeper$Survey;LCellKeeper$Alarms;)I"⟩, 2), (⟨"CellKeeper$Contactors", "precharged", "(ILCellKeeper$Survey;LCellKeeper$Alarms;)I"⟩, 2), (⟨"CellKeeper", "letBleed", "()V"⟩, 17), (⟨"CellKeeper", "writeBlock", "()V"⟩, 17), (⟨"CellKeeper$Blocks", "lay", "(IIJ)V"⟩, 5), (⟨"CellKeeperModel", "begin", "()V"⟩, 32), (⟨"CellKeeperModel", "isRight", "(I)Z"⟩, 32), (⟨"CellKeeperModel", "number", "(II)J"⟩, 32), (⟨"CellKeeperModel", "countCharge", "()V"⟩, 32), (⟨"CellKeeperModel", "areAllValid", "()Z"⟩, 32), (⟨"CellKeeperModel", "isValid", "(II)Z"⟩, 32), (⟨"CellKeeperModel", "isStale", "(I)Z"⟩, 32), (⟨"CellKeeperModel", "numberOf", "(III)I"⟩, 32)]
theorem lw_r2 : ∀ q ∈ lw_privs_2, lw_okq q := List.forall_mem_cons.mpr ⟨lw_p16, List.forall_mem_cons.mpr ⟨lw_p17, List.forall_mem_cons.mpr ⟨lw_p18, List.forall_mem_cons.mpr ⟨lw_p19, List.forall_mem_cons.mpr ⟨lw_p20, List.forall_mem_cons.mpr ⟨lw_p21, List.forall_mem_cons.mpr ⟨lw_p22, List.forall_mem_cons.mpr ⟨lw_p23, List.forall_mem_cons.mpr ⟨lw_p24, List.forall_mem_cons.mpr ⟨lw_p25, List.forall_mem_cons.mpr ⟨lw_p26, List.forall_mem_cons.mpr ⟨lw_p27, List.forall_mem_cons.mpr ⟨lw_p28, List.forall_mem_cons.mpr ⟨lw_p29, List.forall_mem_cons.mpr ⟨lw_p30, List.forall_mem_cons.mpr ⟨lw_p31, fun _ h => absurd h List.not_mem_nil⟩⟩⟩⟩⟩⟩⟩⟩⟩⟩⟩⟩⟩⟩⟩⟩
theorem lw_p32 : lw_okq (⟨"CellKeeperModel", "isStuck", "(II)Z"⟩, 32) := ⟨⟨by decide +kernel, by decide +kernel⟩, List.mem_of_getElem? (i := 747) (by decide +kernel), List.mem_of_getElem? (i := 955) (by decide +kernel), List.mem_of_getElem? (i := 956) (by decide +kernel)⟩
theorem lw_p33 : lw_okq (⟨"CellKeeperModel", "sum", "()I"⟩, 32) := ⟨⟨by decide +kernel, by decide +kernel⟩, List.mem_of_getElem? (i := 747) (by decide +kernel), List.mem_of_getElem? (i := 961) (by decide +kernel), List.mem_of_getElem? (i := 962) (by decide +kernel)⟩
theorem lw_p34 : lw_okq (⟨"CellKeeperModel", "allow", "()V"⟩, 32) := ⟨⟨by decide +kernel, by decide +kernel⟩, List.mem_of_getElem? (i := 747) (by decide +kernel), List.mem_of_getElem? (i := 974) (by decide +kernel), List.mem_of_getElem? (i := 975) (by decide +kernel)⟩
theorem lw_p35 : lw_okq (⟨"CellKeeperModel", "hottest", "()J"⟩, 32) := ⟨⟨by decide +kernel, by decide +kernel⟩, List.mem_of_getElem? (i := 747) (by decide +kernel), List.mem_of_getElem? (i := 978) (by decide +kernel), List.mem_of_getElem? (i := 979) (by decide +kernel)⟩
theorem lw_p36 : lw_okq (⟨"CellKeeperModel", "coldest", "()J"⟩, 32) := ⟨⟨by decide +kernel, by decide +kernel⟩, List.mem_of_getElem? (i := 747) (by decide +kernel), List.mem_of_getElem? (i := 982) (by decide +kernel), List.mem_of_getElem? (i := 983) (by decide +kernel)⟩
theorem lw_p37 : lw_okq (⟨"CellKeeperModel", "full", "(J)J"⟩, 32) := ⟨⟨by decide +kernel, by decide +kernel⟩, List.mem_of_getElem? (i := 747) (by decide +kernel), List.mem_of_getElem? (i := 996) (by decide +kernel), List.mem_of_getElem? (i := 997) (by decide +kernel)⟩
theorem lw_p38 : lw_okq (⟨"CellKeeperModel", "causes", "()V"⟩, 32) := ⟨⟨by decide +kernel, by decide +kernel⟩, List.mem_of_getElem? (i := 747) (by decide +kernel), List.mem_of_getElem? (i := 1005) (by decide +kernel), List.mem_of_getElem? (i := 1006) (by decide +kernel)⟩
theorem lw_p39 : lw_okq (⟨"CellKeeperModel", "isSo", "(I)Z"⟩, 32) := ⟨⟨by decide +kernel, by decide +kernel⟩, List.mem_of_getElem? (i := 747) (by decide +kernel), List.mem_of_getElem? (i := 1009) (by decide +kernel), List.mem_of_getElem? (i := 1010) (by decide +kernel)⟩
theorem lw_p40 : lw_okq (⟨"CellKeeperModel", "latch", "(I)V"⟩, 32) := ⟨⟨by decide +kernel, by decide +kernel⟩, List.mem_of_getElem? (i := 747) (by decide +kernel), List.mem_of_getElem? (i := 1017) (by decide +kernel), List.mem_of_getElem? (i := 1018) (by decide +kernel)⟩
theorem lw_p41 : lw_okq (⟨"CellKeeperModel", "contactors", "()V"⟩, 32) := ⟨⟨by decide +kernel, by decide +kernel⟩, List.mem_of_getElem? (i := 747) (by decide +kernel), List.mem_of_getElem? (i := 1021) (by decide +kernel), List.mem_of_getElem? (i := 1022) (by decide +kernel)⟩
theorem lw_p42 : lw_okq (⟨"CellKeeperModel", "isSerious", "()Z"⟩, 32) := ⟨⟨by decide +kernel, by decide +kernel⟩, List.mem_of_getElem? (i := 747) (by decide +kernel), List.mem_of_getElem? (i := 1025) (by decide +kernel), List.mem_of_getElem? (i := 1026) (by decide +kernel)⟩
theorem lw_p43 : lw_okq (⟨"CellKeeperModel", "become", "(I)V"⟩, 32) := ⟨⟨by decide +kernel, by decide +kernel⟩, List.mem_of_getElem? (i := 747) (by decide +kernel), List.mem_of_getElem? (i := 1029) (by decide +kernel), List.mem_of_getElem? (i := 1030) (by decide +kernel)⟩
theorem lw_p44 : lw_okq (⟨"CellKeeperModel", "bleed", "()V"⟩, 32) := ⟨⟨by decide +kernel, by decide +kernel⟩, List.mem_of_getElem? (i := 747) (by decide +kernel), List.mem_of_getElem? (i := 1035) (by decide +kernel), List.mem_of_getElem? (i := 1036) (by decide +kernel)⟩
theorem lw_p45 : lw_okq (⟨"CellKeeperModel", "write", "()V"⟩, 32) := ⟨⟨by decide +kernel, by decide +kernel⟩, List.mem_of_getElem? (i := 747) (by decide +kernel), List.mem_of_getElem? (i := 1041) (by decide +kernel), List.mem_of_getElem? (i := 1042) (by decide +kernel)⟩
theorem lw_p46 : lw_okq (⟨"CellKeeperModel", "putBlock", "(IIJ)V"⟩, 32) := ⟨⟨by decide +kernel, by decide +kernel⟩, List.mem_of_getElem? (i := 747) (by decide +kernel), List.mem_of_getElem? (i := 1045) (by decide +kernel), List.mem_of_getElem? (i := 1046) (by decide +kernel)⟩
theorem lw_p47 : lw_okq (⟨"CellKeeperModel", "noPower", "()Z"⟩, 32) := ⟨⟨by decide +kernel, by decide +kernel⟩, List.mem_of_getElem? (i := 747) (by decide +kernel), List.mem_of_getElem? (i := 1069) (by decide +kernel), List.mem_of_getElem? (i := 1070) (by decide +kernel)⟩
def lw_privs_3 : List (MethodName × Nat) := [(⟨"CellKeeperModel", "isStuck", "(II)Z"⟩, 32), (⟨"CellKeeperModel", "sum", "()I"⟩, 32), (⟨"CellKeeperModel", "allow", "()V"⟩, 32), (⟨"CellKeeperModel", "hottest", "()J"⟩, 32), (⟨"CellKeeperModel", "coldest", "()J"⟩, 32), (⟨"CellKeeperModel", "full", "(J)J"⟩, 32), (⟨"CellKeeperModel", "causes", "()V"⟩, 32), (⟨"CellKeeperModel", "isSo", "(I)Z"⟩, 32), (⟨"CellKeeperModel", "latch", "(I)V"⟩, 32), (⟨"CellKeeperModel", "contactors", "()V"⟩, 32), (⟨"CellKeeperModel", "isSerious", "()Z"⟩, 32), (⟨"CellKeeperModel", "become", "(I)V"⟩, 32), (⟨"CellKeeperModel", "bleed", "()V"⟩, 32), (⟨"CellKeeperModel", "write", "()V"⟩, 32), (⟨"CellKeeperModel", "putBlock", "(IIJ)V"⟩, 32), (⟨"CellKeeperModel", "noPower", "()Z"⟩, 32)]
theorem lw_r3 : ∀ q ∈ lw_privs_3, lw_okq q := List.forall_mem_cons.mpr ⟨lw_p32, List.forall_mem_cons.mpr ⟨lw_p33, List.forall_mem_cons.mpr ⟨lw_p34, List.forall_mem_cons.mpr ⟨lw_p35, List.forall_mem_cons.mpr ⟨lw_p36, List.forall_mem_cons.mpr ⟨lw_p37, List.forall_mem_cons.mpr ⟨lw_p38, List.forall_mem_cons.mpr ⟨lw_p39, List.forall_mem_cons.mpr ⟨lw_p40, List.forall_mem_cons.mpr ⟨lw_p41, List.forall_mem_cons.mpr ⟨lw_p42, List.forall_mem_cons.mpr ⟨lw_p43, List.forall_mem_cons.mpr ⟨lw_p44, List.forall_mem_cons.mpr ⟨lw_p45, List.forall_mem_cons.mpr ⟨lw_p46, List.forall_mem_cons.mpr ⟨lw_p47, fun _ h => absurd h List.not_mem_nil⟩⟩⟩⟩⟩⟩⟩⟩⟩⟩⟩⟩⟩⟩⟩⟩
theorem lw_p48 : lw_okq (⟨"CellKeeperModel", "noChip", "(I)Z"⟩, 32) := ⟨⟨by decide +kernel, by decide +kernel⟩, List.mem_of_getElem? (i := 747) (by decide +kernel), List.mem_of_getElem? (i := 1098) (by decide +kernel), List.mem_of_getElem? (i := 1099) (by decide +kernel)⟩
def lw_privs_4 : List (MethodName × Nat) := [(⟨"CellKeeperModel", "noChip", "(I)Z"⟩, 32)]
theorem lw_r4 : ∀ q ∈ lw_privs_4, lw_okq q := List.forall_mem_cons.mpr ⟨lw_p48, fun _ h => absurd h List.not_mem_nil⟩
def lw_privs : List (MethodName × Nat) := lw_privs_1 ++ (lw_privs_2 ++ (lw_privs_3 ++ (lw_privs_4)))
def lw_tbl : List Cond := k2_sels lw_privs ++ tables_1
theorem lw_privs_ok : ∀ q ∈ lw_privs, lw_okq q := by
  show ∀ q ∈ lw_privs_1 ++ (lw_privs_2 ++ (lw_privs_3 ++ (lw_privs_4))), lw_okq q
  exact List.forall_mem_append.mpr ⟨lw_r1, List.forall_mem_append.mpr ⟨lw_r2, List.forall_mem_append.mpr ⟨lw_r3, lw_r4⟩⟩⟩
/-- the streams that the claim lets the run draw from -/
abbrev lw_cs : List Choice := [Jvm.Choice.named "NaN.bits"]
theorem lw_bits : nanBits ∈ lw_cs := by first | decide | exact List.mem_cons_self | simp [lw_cs, nanBits]
end
section
/-! ===== BEGIN words of one list among another's, by their places ===== -/
theorem goodIn_r {big : List Cond} (ws : List Cond) (ps : List Nat) (hp : ws = ps.filterMap (fun i => big[i]?)) (h : ws.all goodWord = true) : GoodIn big ws := by
  intro w hw
  have h1 := List.all_eq_true.mp h w hw
  rw [hp] at hw
  obtain ⟨i, -, hi⟩ := List.mem_filterMap.mp hw
  have hm : w ∈ big := by first | exact List.mem_of_getElem? hi | exact List.getElem?_mem hi
  exact ⟨hm, good_of_word h1⟩
theorem goodIn_app {big a b : List Cond} (ha : GoodIn big a) (hb : GoodIn big b) : GoodIn big (a ++ b) := fun w h => (List.mem_append.mp h).elim (ha w) (hb w)
theorem goodIn_ca {big a b : List Cond} {c : Cond} (ha : GoodIn big (c :: a)) (hb : GoodIn big b) : GoodIn big (c :: (a ++ b)) := fun w h => (List.mem_cons.mp h).elim (fun e => ha w (List.mem_cons.mpr (Or.inl e))) (fun h => (List.mem_append.mp h).elim (fun h => ha w (List.mem_cons.mpr (Or.inr h))) (hb w))
theorem goodIn_sub {big ws : List Cond} (hm : ∀ w ∈ ws, w ∈ big) (h : ws.all goodWord = true) : GoodIn big ws := fun w hw => ⟨hm w hw, good_of_word (List.all_eq_true.mp h w hw)⟩
/-! ===== END ===== -/

/-! ===== BEGIN exceptions that leave a method, and their catching by the caller (launches without stack traces) ===== -/
section VXA
/-! The laws vx_back, vx_callV, vx_callS, vx_callSW, vx_throw0, vx_throwS follow proofs of the library, with one case more: JvmDerived/Free/Laws.lean (Back.of_free), Shelf42/LK1.lean (callV, callS), Shelf/KitTraced.lean (throwNew0V, throwNewS). -/
/-- where a method has thrown q: the class by its name, the cell, what was written, the world -/
def vx_T (XC : String → State → State → Prop) (st : State) (q : Addr) (t : State) (mc ms : Nat) (free : Addr → Prop) : Prop :=
  ∃ (E : String) (ce : Cell) (L : List Loc), XC E st t ∧ t.heap[q]? = some ce ∧ ce.vm = .none ∧ st.vm.findClass E = some ce.cls ∧ st.WarmedH t.vm ∧ st.sameButNew ({ t with vm := st.vm } : State) L mc ms ∧ ∀ z ∈ L, free z.base
def vx_Q (Qc : Array Value → State → Outcome → State → Prop) (XC : String → State → State → Prop) (mc ms : Nat) (free : Addr → Prop) : Array Value → State → Outcome → State → Prop := fun a st o t =>
  (Qc a st o t ∧ ∃ L, FrameEnd st o t L mc ms ∧ ∀ q ∈ L, free q.base) ∨ ∃ q, o = .threw q ∧ vx_T XC st q t mc ms free
/-- a callee that returns or throws -/
def vx_Met (l : Launch) (y : MethodName) (ws : List Cond) (rm : Room) (Pc : Array Value → State → Prop) (Qc : Array Value → State → Outcome → State → Prop) (XC : String → State → State → Prop) (mc ms : Nat) (free : Addr → Prop) : Prop :=
  MetFree l y (headSpec ws rm) Pc (fun _ _ _ _ _ => True) (vx_Q Qc XC mc ms free)
def vx_Post (XC : String → State → State → Prop) (mc ms : Nat) (free : Addr → Prop) : Pt → Array Value → Addr → Pt → Prop := fun A a q B =>
  ∃ (g : JFrame) (mk : MethodId) (t : State) (L : List Loc) (E : String) (ce : Cell), B.U.heap = t.heap ∧ B.U.vm = t.vm ∧ XC E (A.U.calling g mk a) t ∧ t.heap[q]? = some ce ∧ ce.vm = .none ∧ A.U.vm.findClass E = some ce.cls ∧ B.locs = A.locs ++ L ∧ (∀ z ∈ L, free z.base) ∧ B.cells = A.cells + mc ∧ B.slots = A.slots + ms
def vx_Back (l : Launch) (R : Room) (p : Program) (e : Env) (below : List Frame) (s : State) (sargs : Array Value) (y : MethodName) (len W9 : Nat)
    (Pre : Pt → Array Value → Prop) (Post : Pt → Array Value → Option Value → Pt → Prop) (PostX : Pt → Array Value → Addr → Pt → Prop) : Prop :=
  ∀ (m : MethodId) (meth : Method) (c : Code) (A : Pt) (g : JFrame) (ig : Instr) (mk : MethodId) (a : Array Value),
    Stand p l e R s m sargs below meth c A.U A.locs A.cells A.slots → g.method = m → g.locals.size = c.maxLocals → decode c.code g.pc = .ok (ig, len) →
    2 * g.monitorRoom + (g.stack.map fun v => v.category).sum ≤ W9 → A.U.methodNamed? y = some mk → Pre A a →
    (∃ (v : Option Value) (B : Pt), Stand p l e R s m sargs below meth c B.U B.locs B.cells B.slots ∧ Post A a v B ∧
      Steps p.tables e below (doInvoke e (A.U.setTop g) [] mk a).1 (B.U.setTop { g with pc := g.pc + len, stack := v.toList ++ g.stack })) ∨
    (∃ (q : Addr) (B : Pt), Stand p l e R s m sargs below meth c B.U B.locs B.cells B.slots ∧ PostX A a q B ∧
      Steps p.tables e below (doInvoke e (A.U.setTop g) [] mk a).1 ((B.U.setTop g).pushFrame (.throwing q)))
section Payer
variable {l : Launch} {R : Room} {p : Program} {e : Env} {below : List Frame} {s : State} {sargs : Array Value} {y : MethodName} {len W9 : Nat}
theorem vx_back {ws : List Cond} {rm : Room} {Pc : Array Value → State → Prop} {Qc : Array Value → State → Outcome → State → Prop} {XC : String → State → State → Prop} {mc ms : Nat} {free : Addr → Prop} {bytes : ByteArray} {maxL : Nat} {ret : Option FieldType}
    (hM : vx_Met l y ws rm Pc Qc XC mc ms free) (hblind : FrameBlind Pc) (hrc : rm.cells = mc) (hrs : rm.slots = ms)
    (hframes : rm.frames + 1 ≤ R.frames) (hlocals : W9 + (maxL + 11) + rm.locals ≤ R.locals)
    (hws : ∀ w ∈ ws, ∀ a' U, s.WarmedH U.vm → w.before a' U = true) (hcode : Cond.code y bytes maxL ret ∈ ws) (hinit : ∀ a' U, s.WarmedH U.vm → (Cond.initialized y.cls).before a' U = true) :
    vx_Back l R p e below s sargs y len W9 (PreOf R mc ms Pc) (PostOf Qc mc ms free) (vx_Post XC mc ms free) := by
  intro m meth c A g ig mk a X hg hsize hdg hW hn hp
  have h1 : (headSpec ws rm).pre.before a A.U = true := atoms_intro fun w hw => hws w hw _ _ X.warmed
  have h2 : (Cond.code y bytes maxL ret).before a A.U = true := hws _ hcode _ _ X.warmed
  have h3 : (Cond.initialized y.cls).before a A.U = true := hinit _ _ X.warmed
  have h4 : A.cells + (headSpec ws rm).room.cells ≤ R.cells := by rw [show (headSpec ws rm).room.cells = mc from hrc]; exact hp.1
  have h5 : A.slots + (headSpec ws rm).room.slots ≤ R.slots := by rw [show (headSpec ws rm).room.slots = ms from hrs]; exact hp.2.1
  have hPc : Pc a (A.U.calling g mk a) := hblind _ _ _ _ hp.2.2
  obtain ⟨U, Ls, c0, s0⟩ := A
  dsimp only [Pt.U, Pt.locs, Pt.cells, Pt.slots] at h1 h2 h3 h4 h5 X hn hPc ⊢
  obtain ⟨methY, cY, hmY, hcY, -, hlY, -, -, -, -⟩ := Cond.code_spec hn h2
  obtain ⟨kY, hkY, -⟩ := className_of_methodNamed hn
  have hinitY : kY.init = .initialized := Cond.initialized_spec (findClass_of_methodNamed hn) hkY h3
  have h : At U g.method c below := by rw [hg]; exact X.here
  have hlocals9 : W9 + (maxL + 11) + (headSpec ws rm).room.locals ≤ R.locals := hlocals
  have happ : (headSpec ws rm).appliesLoose y e.platform (U.calling g mk a) = true :=
    Spec.appliesLoose_calling (g := g) h hdg hn hkY hinitY
      (X.room_calling (g := g) (R' := (headSpec ws rm).room) hsize hmY hcY hframes (by rw [hlY]; omega) h4 h5) h1
  obtain ⟨mid, hmid⟩ := h.above
  have hfr : (U.setTop g).frames = (.java g :: mid) ++ below := by rw [State.frames_setTop' g h.top, hmid]; rfl
  obtain ⟨o, s₂, hsteps, -, hend, hq⟩ := Steps.callFree hM p X.admits X.cas X.clock (acts := []) hfr happ hPc trivial
  have hq' : vx_Q Qc XC mc ms free a (U.calling g mk a) o s₂ := hq
  rw [State.frames_setTop' g h.top] at hend
  obtain ⟨g₀, hg0⟩ := Option.isSome_iff_exists.mp h.top
  obtain ⟨r, hr⟩ := State.topJava?_eq_some.mp hg0
  have hr' : (({ U with heap := s₂.heap, slotsUsed := s₂.slotsUsed } : State).setVm s₂.vm).frames = .java g₀ :: r := hr
  rcases hq' with ⟨hqc, L, hfe, hL⟩ | ⟨q, rfl, E, ce, L, hx, hce, hcv, hcl, hW₂, hsm, hL⟩
  · obtain ⟨⟨v, rfl⟩, hW₂, e2, q2, q3, q4, q5, q6⟩ := id hfe
    have e3 : s₂ = ({ (U.calling g mk a).setFrames s₂.frames with heap := s₂.heap, slotsUsed := s₂.slotsUsed } : State).setVm s₂.vm := by
      have : s₂ = ({ s₂ with vm := (U.calling g mk a).vm } : State).setVm s₂.vm := rfl
      rw [e2] at this
      exact this
    obtain ⟨c₂, i₂, len₂, hc₂, hd₂, hf₂⟩ := hend
    have hW' : U.WarmedH s₂.vm := hW₂
    have hcc : c₂ = c := by
      have h1 : s₂.code? g.method = U.code? g.method := by
        rw [State.code?_eq, State.code?_eq, hW'.alike.method?]
      exact Option.some.inj (hc₂.symm.trans (h1.trans h.code))
    subst hcc
    have hlen : len₂ = len := by rw [hdg] at hd₂; cases hd₂; rfl
    subst hlen
    have hs₂ : s₂ = (({ U with heap := s₂.heap, slotsUsed := s₂.slotsUsed } : State).setVm s₂.vm).setTop { g with pc := g.pc + len₂, stack := v.toList ++ g.stack } := by
      refine e3.trans ?_
      rw [hf₂, State.calling_eq h.top, State.setFrames_setFrames, State.setTop_of_frames _ hr', hr]
      rfl
    have hsame : U.sameButNew ({ U with heap := s₂.heap, slotsUsed := s₂.slotsUsed } : State) L mc ms := by
      refine ⟨?_, q2, q3, q4, q5, q6⟩
      obtain ⟨t, ht, -⟩ := State.frames_cons hr
      show ({ U with heap := s₂.heap, slotsUsed := s₂.slotsUsed } : State) = { U.setFrames U.frames with heap := s₂.heap, slotsUsed := s₂.slotsUsed }
      rw [State.setFrames_self ht]
    subst hg
    refine Or.inl ⟨v, ⟨(({ U with heap := s₂.heap, slotsUsed := s₂.slotsUsed } : State).setVm s₂.vm), Ls ++ L, c0 + mc, s0 + ms⟩,
      ⟨X.admits, X.cas, X.clock, X.frames, X.room, X.hears, X.method, X.code, (X.here.setHeapUsed s₂.heap s₂.slotsUsed).setVm hW'.alike, X.tail, State.WarmedH.trans X.warmed hW', X.limits, X.bytes, X.same.trans (hsame.setVm s.vm)⟩,
      ⟨g, mk, s₂, L, rfl, rfl, hqc, rfl, hL, rfl, rfl⟩, ?_⟩
    show Steps p.tables e below _ ((({ U with heap := s₂.heap, slotsUsed := s₂.slotsUsed } : State).setVm s₂.vm).setTop { g with pc := g.pc + len₂, stack := v.toList ++ g.stack })
    rw [← hs₂]
    exact hsteps
  · obtain ⟨e2, q2, q3, q4, q5, q6⟩ := id hsm
    have e3 : s₂ = ({ (U.calling g mk a).setFrames s₂.frames with heap := s₂.heap, slotsUsed := s₂.slotsUsed } : State).setVm s₂.vm := by
      have : s₂ = ({ s₂ with vm := (U.calling g mk a).vm } : State).setVm s₂.vm := rfl
      rw [e2] at this
      exact this
    have hf₂ : s₂.frames = .throwing q :: .java g :: U.frames.tail := hend
    have hW' : U.WarmedH s₂.vm := hW₂
    have hs₂ : s₂ = ((({ U with heap := s₂.heap, slotsUsed := s₂.slotsUsed } : State).setVm s₂.vm).setTop g).pushFrame (.throwing q) := by
      refine e3.trans ?_
      rw [hf₂, State.calling_eq h.top, State.setFrames_setFrames, State.pushFrame, State.frames_setTop _ hr', State.setTop_of_frames _ hr', State.setFrames_setFrames, hr]
      rfl
    have hsame : U.sameButNew ({ U with heap := s₂.heap, slotsUsed := s₂.slotsUsed } : State) L mc ms := by
      refine ⟨?_, q2, q3, q4, q5, q6⟩
      obtain ⟨t, ht, -⟩ := State.frames_cons hr
      show ({ U with heap := s₂.heap, slotsUsed := s₂.slotsUsed } : State) = { U.setFrames U.frames with heap := s₂.heap, slotsUsed := s₂.slotsUsed }
      rw [State.setFrames_self ht]
    subst hg
    refine Or.inr ⟨q, ⟨(({ U with heap := s₂.heap, slotsUsed := s₂.slotsUsed } : State).setVm s₂.vm), Ls ++ L, c0 + mc, s0 + ms⟩,
      ⟨X.admits, X.cas, X.clock, X.frames, X.room, X.hears, X.method, X.code, (X.here.setHeapUsed s₂.heap s₂.slotsUsed).setVm hW'.alike, X.tail, State.WarmedH.trans X.warmed hW', X.limits, X.bytes, X.same.trans (hsame.setVm s.vm)⟩,
      ⟨g, mk, s₂, L, E, ce, rfl, rfl, hx, hce, hcv, hcl, rfl, hL, rfl, rfl⟩, ?_⟩
    show Steps p.tables e below _ (((({ U with heap := s₂.heap, slotsUsed := s₂.slotsUsed } : State).setVm s₂.vm).setTop g).pushFrame (.throwing q))
    rw [← hs₂]
    exact hsteps
end Payer
section Calls
variable {p : Program} {l : Launch} {e : Env} {R : Room} {s : State} {m : MethodId} {args : Array Value} {below : List Frame} {meth : Method} {c : Code} {T : State} {locs : List Loc} {cells slots : Nat}
theorem vx_callV (X : Stand p l e R s m args below meth c T locs cells slots) (hexec : p.tables.exec = Jvm.exec) {own C : String} {index : Nat} {y : MethodName} {bytes : ByteArray} {maxL : Nat} {ret : Option FieldType}
    (hown : s.vm.findClass own = some m.cls) (hlink : (Cond.methodLink own index y).before args s = true) (hinst : (Cond.instanceMethod y).before args s = true) (hsel : (Cond.selects C y y).before args s = true)
    (hcode : (Cond.code y bytes maxL ret).before args s = true) (hy : y.cls ≠ "java/lang/invoke/MethodHandle" ∧ y.cls ≠ "java/lang/invoke/VarHandle")
    {W9 : Nat} {Pre : Pt → Array Value → Prop} {Post : Pt → Array Value → Option Value → Pt → Prop} {PostX : Pt → Array Value → Addr → Pt → Prop} (hK : vx_Back l R p e below s args y 3 W9 Pre Post PostX)
    {b : Addr} {cellB : Cell} (hcell : T.heap[b]? = some cellB) (hobj : cellB.vm.isStatics = false) (hcls : s.vm.findClass C = some cellB.cls)
    {g : JFrame} (hg : g.method = m) (hsize : g.locals.size = c.maxLocals) {argsL rest : List Value} (hlen : ∀ sig, parseMethodDescriptor y.desc = some sig → argsL.length = sig.parameters.length)
    (hstack : g.stack = argsL.reverse ++ .ref b :: rest) (hW : 2 * g.monitorRoom + (rest.map fun v => v.category).sum ≤ W9) (hdg : decode c.code g.pc = .ok (.invokevirtual index, 3))
    (hpre : ∀ vm₁, s.WarmedH vm₁ → Pre ⟨T.setVm vm₁, locs, cells, slots⟩ (Value.ref b :: argsL).toArray) :
    (∃ (v : Option Value) (vm₁ : Vm) (B : Pt), s.WarmedH vm₁ ∧ Stand p l e R s m args below meth c B.U B.locs B.cells B.slots ∧ Post ⟨T.setVm vm₁, locs, cells, slots⟩ (Value.ref b :: argsL).toArray v B ∧
      ∀ target, Steps p.tables e below (B.U.setTop { g with pc := g.pc + 3, stack := v.toList ++ rest }) target → Steps p.tables e below (T.setTop g) target) ∨
    (∃ (q : Addr) (vm₁ : Vm) (B : Pt), s.WarmedH vm₁ ∧ Stand p l e R s m args below meth c B.U B.locs B.cells B.slots ∧ PostX ⟨T.setVm vm₁, locs, cells, slots⟩ (Value.ref b :: argsL).toArray q B ∧
      Steps p.tables e below (T.setTop g) ((B.U.setTop { g with stack := rest }).pushFrame (.throwing q))) := by
  obtain ⟨mk, methM, hnamed, hmethM, hstM, habM⟩ := Cond.instanceMethod_spec hinst
  obtain ⟨methM', cM, hmethM', -, -, -, -, -, -, hsigM⟩ := Cond.code_spec hnamed hcode
  cases hmethM.symm.trans hmethM'
  obtain ⟨c2, r2, m2, q1, q2, q3, q4, kP, hkP, hkPi⟩ := Cond.selects_spec hsel
  cases hcls.symm.trans q1
  cases (State.methodFound?_of_named hnamed hy).symm.trans q2
  cases hnamed.symm.trans q3
  have hselP : selectMethod e.platform s.vm cellB.cls mk = .method mk := by rw [Launch.admits_selectMethod X.admits]; exact q4
  obtain ⟨vm₁, X₁, hstep₁⟩ := X.invokevirtual hexec hown hlink hnamed hmethM hstM hkP hkPi hy (a := b) (cell := cellB) hcell
    (fun z h => by rw [h] at hobj; cases hobj) hselP hmethM habM hkP hkPi (g := g) hg (argsL := argsL) (rest := rest) (hlen _ hsigM) hstack hdg
  rcases hK m meth c ⟨T.setVm vm₁, locs, cells, slots⟩ { g with stack := rest } (.invokevirtual index) mk (Value.ref b :: argsL).toArray X₁ hg hsize hdg hW (X₁.named hnamed) (hpre vm₁ X₁.warmed) with ⟨v, B, X', hpost, hsteps⟩ | ⟨q, B, X', hpost, hsteps⟩
  · exact Or.inl ⟨v, vm₁, B, X₁.warmed, X', hpost, fun target h => hstep₁ _ fun acts => by rw [doInvoke_state]; exact hsteps.trans h⟩
  · exact Or.inr ⟨q, vm₁, B, X₁.warmed, X', hpost, hstep₁ _ fun acts => by rw [doInvoke_state]; exact hsteps⟩
theorem vx_callS (X : Stand p l e R s m args below meth c T locs cells slots) (hexec : p.tables.exec = Jvm.exec) {own : String} {index : Nat} {y : MethodName} {bytes : ByteArray} {maxL : Nat} {ret : Option FieldType}
    (hown : s.vm.findClass own = some m.cls) (hlink : (Cond.methodLink own index y).before args s = true) (hstat : (Cond.static y).before args s = true) (hinit : (Cond.initialized y.cls).before args s = true)
    (hcode : (Cond.code y bytes maxL ret).before args s = true) (hy : y.cls ≠ "java/lang/invoke/MethodHandle" ∧ y.cls ≠ "java/lang/invoke/VarHandle")
    {W9 : Nat} {Pre : Pt → Array Value → Prop} {Post : Pt → Array Value → Option Value → Pt → Prop} {PostX : Pt → Array Value → Addr → Pt → Prop} (hK : vx_Back l R p e below s args y 3 W9 Pre Post PostX)
    {g : JFrame} (hg : g.method = m) (hsize : g.locals.size = c.maxLocals) {argsL rest : List Value} (hlen : ∀ sig, parseMethodDescriptor y.desc = some sig → argsL.length = sig.parameters.length)
    (hstack : g.stack = argsL.reverse ++ rest) (hW : 2 * g.monitorRoom + (rest.map fun v => v.category).sum ≤ W9) (hdg : decode c.code g.pc = .ok (.invokestatic index, 3))
    (hpre : ∀ vm₁, s.WarmedH vm₁ → Pre ⟨T.setVm vm₁, locs, cells, slots⟩ argsL.toArray) :
    (∃ (v : Option Value) (vm₁ : Vm) (B : Pt), s.WarmedH vm₁ ∧ Stand p l e R s m args below meth c B.U B.locs B.cells B.slots ∧ Post ⟨T.setVm vm₁, locs, cells, slots⟩ argsL.toArray v B ∧
      ∀ target, Steps p.tables e below (B.U.setTop { g with pc := g.pc + 3, stack := v.toList ++ rest }) target → Steps p.tables e below (T.setTop g) target) ∨
    (∃ (q : Addr) (vm₁ : Vm) (B : Pt), s.WarmedH vm₁ ∧ Stand p l e R s m args below meth c B.U B.locs B.cells B.slots ∧ PostX ⟨T.setVm vm₁, locs, cells, slots⟩ argsL.toArray q B ∧
      Steps p.tables e below (T.setTop g) ((B.U.setTop { g with stack := rest }).pushFrame (.throwing q))) := by
  obtain ⟨mk, hnamed⟩ := Cond.code_named hcode
  obtain ⟨methM, cM, hmethM, -, -, -, -, -, -, hsigM⟩ := Cond.code_spec hnamed hcode
  have hstatic : methM.isStatic = true := Cond.static_spec hnamed hmethM hstat
  obtain ⟨kP, hkP, -⟩ := className_of_methodNamed hnamed
  have hinitP : kP.init = .initialized := Cond.initialized_spec (findClass_of_methodNamed hnamed) hkP hinit
  obtain ⟨vm₁, X₁, hstep₁⟩ := X.invokestatic hexec hown hlink hnamed hmethM hstatic hkP hinitP hy (g := g) hg (argsL := argsL) (rest := rest) (hlen _ hsigM) hstack hdg
  rcases hK m meth c ⟨T.setVm vm₁, locs, cells, slots⟩ { g with stack := rest } (.invokestatic index) mk argsL.toArray X₁ hg hsize hdg hW (X₁.named hnamed) (hpre vm₁ X₁.warmed) with ⟨v, B, X', hpost, hsteps⟩ | ⟨q, B, X', hpost, hsteps⟩
  · exact Or.inl ⟨v, vm₁, B, X₁.warmed, X', hpost, fun target h => hstep₁ _ fun acts => by rw [doInvoke_state]; exact hsteps.trans h⟩
  · exact Or.inr ⟨q, vm₁, B, X₁.warmed, X', hpost, hstep₁ _ fun acts => by rw [doInvoke_state]; exact hsteps⟩
end Calls
theorem vx_cls {s : State} {T : State} {vm₁ : Vm} {E : String} {k : ClassId} (hW : s.WarmedH vm₁) (h : (T.setVm vm₁).vm.findClass E = some k) : s.vm.findClass E = some k := by
  have h1 : vm₁.findClass E = some k := h
  rw [hW.alike.findClass] at h1
  exact h1
/-- the method's frame g, with q thrown over it -/
def vx_W (p : Program) (l : Launch) (e : Env) (R : Room) (s : State) (m : MethodId) (args : Array Value) (below : List Frame) (meth : Method) (c : Code) (H : Heap) (locs : List Loc) (cells slots : Nat) (Q : State → Prop) (g : JFrame) (q : Addr) : Prop :=
  ∀ T : State, T.heap = H → Stand p l e R s m args below meth c T locs cells slots → ∃ t, Steps p.tables e below ((T.setTop g).pushFrame (.throwing q)) t ∧ Q t
def vx_Run (p : Program) (l : Launch) (e : Env) (R : Room) (s : State) (m : MethodId) (args : Array Value) (below : List Frame) (meth : Method) (c : Code) (H : Heap) (locs : List Loc) (cells slots mc ms : Nat) (g : JFrame) (rest : List Value) (Qa : State → Outcome → State → Prop) (XC : String → State → State → Prop) (free : Addr → Prop) : Prop :=
  ∀ T : State, T.heap = H → Stand p l e R s m args below meth c T locs cells slots →
    (∃ (v : Option Value) (st₀ t T' : State) (L : List Loc), st₀.heap = H ∧ Stand p l e R s m args below meth c T' (locs ++ L) (cells + mc) (slots + ms) ∧ (∀ q ∈ L, free q.base) ∧ T'.heap = t.heap ∧ T'.vm = t.vm ∧ Qa st₀ (.returned v) t ∧
      Goes p e below T g T' { g with pc := g.pc + 3, stack := v.toList ++ rest }) ∨
    (∃ (q : Addr) (st₀ t T' : State) (L : List Loc) (E : String) (ce : Cell), st₀.heap = H ∧ Stand p l e R s m args below meth c T' (locs ++ L) (cells + mc) (slots + ms) ∧ (∀ z ∈ L, free z.base) ∧ T'.heap = t.heap ∧ T'.vm = t.vm ∧ XC E st₀ t ∧ t.heap[q]? = some ce ∧ ce.vm = .none ∧ s.vm.findClass E = some ce.cls ∧
      Steps p.tables e below (T.setTop g) ((T'.setTop { g with stack := rest }).pushFrame (.throwing q)))
def vx_X {S : Type} (px : S → Prop) (B : String → S → State → Prop) (A : Nat → Prop) : String → State → State → Prop := fun E st t => ∃ u : S, px u ∧ B E u t ∧ va_F A st t
section Runs
variable {p : Program} {l : Launch} {e : Env} {R : Room} {s : State} {m : MethodId} {args : Array Value} {below : List Frame} {meth : Method} {c : Code} {H : Heap} {locs : List Loc} {cells slots : Nat}
variable {y : MethodName} {bytes cc : ByteArray} {maxL nL mc ms n index : Nat} {ret : Option FieldType} {ws : List Cond} {rm : Room} {Pc : Array Value → State → Prop} {Qc : Array Value → State → Outcome → State → Prop} {XC : String → State → State → Prop} {free : Addr → Prop} {Ts : List Cond} {own C : String} {b : Addr} {As rest : List Value} {g : JFrame}
theorem vx_callBack (cb : CallB R s args own index y bytes maxL ret ws rm mc ms n) (hM : vx_Met l y ws rm Pc Qc XC mc ms free) (hbl : FrameBlind Pc) : vx_Back l R p e below s args y 3 8 (PreOf R mc ms Pc) (PostOf Qc mc ms free) (vx_Post XC mc ms free) := by
  obtain ⟨hrc, hrs, hfr, hlo, hws, hcw, -, hini, -⟩ := cb
  exact vx_back (bytes := bytes) (maxL := maxL) (ret := ret) hM hbl hrc hrs hfr hlo hws hcw (fun a' U hW => word_at hW (Or.inl (by first | rfl | simp [Cond.onTables, Cond.keeps, Cond.steady])) hini)
theorem vx_runV (S : CallFix p m c cc nL s args Ts own) (hM : vx_Met l y ws rm Pc Qc XC mc ms free) (cw : CallW R s args own C index y bytes maxL ret ws rm mc ms n) (hp : PreV s H C b Pc As)
    (hg : g.method = m) (hn : As.length = n) (hsize : g.locals.size = nL) (hstack : g.stack = As.reverse ++ .ref b :: rest) (hW : 2 * g.monitorRoom + (rest.map fun v => v.category).sum ≤ 8) (hdg : decode cc g.pc = .ok (.invokevirtual index, 3)) (hf : cells + mc ≤ R.cells ∧ slots + ms ≤ R.slots) :
    vx_Run p l e R s m args below meth c H locs cells slots mc ms g rest (Qc (Value.ref b :: As).toArray) XC free := by
  have hK : vx_Back l R p e below s args y 3 8 (PreOf R mc ms Pc) (PostOf Qc mc ms free) (vx_Post XC mc ms free) := vx_callBack cw.1 hM hp.1
  obtain ⟨⟨-, -, -, -, -, -, hcode, -, hy, hlen, hl⟩, hin, hse⟩ := cw
  obtain ⟨hx, hb, hml, ho, -⟩ := S
  obtain ⟨-, ⟨cellB, hcB, hoB, hclB⟩, hPc⟩ := hp
  intro T hT X
  rcases vx_callV X hx (C := C) (bytes := bytes) (maxL := maxL) (ret := ret) ho hl hin hse hcode hy hK (by rw [hT]; exact hcB) hoB hclB hg (hsize.trans hml.symm) (argsL := As) (rest := rest) (fun sig h => hn.trans (hlen sig h)) hstack hW (by rw [hb]; exact hdg)
    (fun vm₁ hW₁ => ⟨hf.1, hf.2, hPc (T.setVm vm₁) hT hW₁⟩) with ⟨v, vm₁, ⟨U', l2, c2, s2⟩, hW₁, X', ⟨g', mk, t, L, e1, e2, hq, h1, hL, h2, h3⟩, st⟩ | ⟨q, vm₁, ⟨U', l2, c2, s2⟩, hW₁, X', ⟨g', mk, t, L, E, ce, e1, e2, hq, hce, hcv, hcl, h1, hL, h2, h3⟩, st⟩
  · dsimp only [Pt.U, Pt.locs, Pt.cells, Pt.slots] at X' e1 e2 h1 h2 h3 st
    subst h1; subst h2; subst h3
    exact Or.inl ⟨v, (T.setVm vm₁).calling g' mk (Value.ref b :: As).toArray, t, U', L, hT, X', hL, e1, e2, hq, st⟩
  · dsimp only [Pt.U, Pt.locs, Pt.cells, Pt.slots] at X' e1 e2 h1 h2 h3 st hcl
    subst h1; subst h2; subst h3
    exact Or.inr ⟨q, (T.setVm vm₁).calling g' mk (Value.ref b :: As).toArray, t, U', L, E, ce, hT, X', hL, e1, e2, hq, hce, hcv, vx_cls hW₁ hcl, st⟩
theorem vx_runS (S : CallFix p m c cc nL s args Ts own) (hM : vx_Met l y ws rm Pc Qc XC mc ms free) (cw : CallB R s args own index y bytes maxL ret ws rm mc ms n ∧ (Cond.static y).before args s = true) (hp : PreS s H Pc As)
    (hg : g.method = m) (hn : As.length = n) (hsize : g.locals.size = nL) (hstack : g.stack = As.reverse ++ rest) (hW : 2 * g.monitorRoom + (rest.map fun v => v.category).sum ≤ 8) (hdg : decode cc g.pc = .ok (.invokestatic index, 3)) (hf : cells + mc ≤ R.cells ∧ slots + ms ≤ R.slots) :
    vx_Run p l e R s m args below meth c H locs cells slots mc ms g rest (Qc As.toArray) XC free := by
  have hK : vx_Back l R p e below s args y 3 8 (PreOf R mc ms Pc) (PostOf Qc mc ms free) (vx_Post XC mc ms free) := vx_callBack cw.1 hM hp.1
  obtain ⟨⟨-, -, -, -, -, -, hcode, hini, hy, hlen, hl⟩, hstt⟩ := cw
  obtain ⟨hx, hb, hml, ho, -⟩ := S
  intro T hT X
  rcases vx_callS X hx (bytes := bytes) (maxL := maxL) (ret := ret) ho hl hstt hini hcode hy hK hg (hsize.trans hml.symm) (argsL := As) (rest := rest) (fun sig h => hn.trans (hlen sig h)) hstack hW (by rw [hb]; exact hdg)
    (fun vm₁ hW₁ => ⟨hf.1, hf.2, hp.2 (T.setVm vm₁) hT hW₁⟩) with ⟨v, vm₁, ⟨U', l2, c2, s2⟩, hW₁, X', ⟨g', mk, t, L, e1, e2, hq, h1, hL, h2, h3⟩, st⟩ | ⟨q, vm₁, ⟨U', l2, c2, s2⟩, hW₁, X', ⟨g', mk, t, L, E, ce, e1, e2, hq, hce, hcv, hcl, h1, hL, h2, h3⟩, st⟩
  · dsimp only [Pt.U, Pt.locs, Pt.cells, Pt.slots] at X' e1 e2 h1 h2 h3 st
    subst h1; subst h2; subst h3
    exact Or.inl ⟨v, (T.setVm vm₁).calling g' mk As.toArray, t, U', L, hT, X', hL, e1, e2, hq, st⟩
  · dsimp only [Pt.U, Pt.locs, Pt.cells, Pt.slots] at X' e1 e2 h1 h2 h3 st hcl
    subst h1; subst h2; subst h3
    exact Or.inr ⟨q, (T.setVm vm₁).calling g' mk As.toArray, t, U', L, E, ce, hT, X', hL, e1, e2, hq, hce, hcv, vx_cls hW₁ hcl, st⟩
end Runs
section Rows
variable {p : Program} {l : Launch} {e : Env} {R : Room} {s : State} {m : MethodId} {args : Array Value} {below : List Frame} {meth : Method} {c : Code} {H : Heap} {locs : List Loc} {cells slots : Nat} {Q : State → Prop}
variable {mc ms : Nat} {free : Addr → Prop} {A0 A1 : Nat → Prop} {H0 : Heap} {a : Array Value} {pc : Nat} {ls : Array Slot} {st0 rest : List Value}
theorem vx_keep {st₀ t T' : State} {L : List Loc} (h0 : st₀.heap = H) (e1 : T'.heap = t.heap) (hS : va_S A0 H0 H locs) (hA : ∀ q, q < H.size → A1 q → A0 q) (hf : ∀ q, free q → A0 q) (hL : ∀ q ∈ L, free q.base) (hF : va_F A1 st₀ t) :
    H.size ≤ T'.heap.size ∧ (∀ q : Nat, q < H.size → ¬ A1 q → T'.heap[q]? = H[q]?) ∧ va_S A0 H0 T'.heap (locs ++ L) := by
  obtain ⟨hz, hk⟩ := hF
  rw [h0] at hz hk
  exact ⟨by rw [e1]; exact hz, fun q h1 h2 => by rw [e1]; exact hk q h1 h2,
    ⟨Nat.le_trans hS.1 (by rw [e1]; exact hz), fun q h1 h2 => by rw [e1, hk q (Nat.lt_of_lt_of_le h1 hS.1) (fun z => h2 (hA q (Nat.lt_of_lt_of_le h1 hS.1) z))]; exact hS.2.1 q h1 h2, fun q hq => by
      rcases List.mem_append.mp hq with h | h
      · exact hS.2.2 q h
      · exact hf _ (hL q h)⟩⟩
theorem vx_calli {S SX : Type} {post : Int32 → S → Prop} {px : SX → Prop} {B : S → State → Prop} {BX : String → SX → State → Prop} {AX : Nat → Prop} (hr : vx_Run p l e R s m args below meth c H locs cells slots mc ms (F0 m pc ls st0) rest (va_Qi post B A1 a) (vx_X px BX AX) free) (hS : va_S A0 H0 H locs) (hA : ∀ q, q < H.size → A1 q → A0 q) (hf : ∀ q, free q → A0 q) (hAX : ∀ q, q < H.size → AX q → A0 q)
    (kx : ∀ (E : String) (ce : Cell) (q9 : Addr) (u : SX) (t : State) (H1 : Heap) (locs1 : List Loc), t.heap = H1 → s.vm.Alike t.vm → px u → BX E u t → H.size ≤ H1.size → (∀ q : Nat, q < H.size → ¬ AX q → H1[q]? = H[q]?) → va_S A0 H0 H1 locs1 → H1[q9]? = some ce → ce.vm = .none → s.vm.findClass E = some ce.cls → vx_W p l e R s m args below meth c H1 locs1 (cells + mc) (slots + ms) Q (F0 m pc ls rest) q9)
    (kk : ∀ (r : Int32) (u : S) (t : State) (H1 : Heap) (locs1 : List Loc), t.heap = H1 → s.vm.Alike t.vm → post r u → B u t → H.size ≤ H1.size → (∀ q : Nat, q < H.size → ¬ A1 q → H1[q]? = H[q]?) → va_S A0 H0 H1 locs1 → W p l e R s m args below meth c H1 locs1 (cells + mc) (slots + ms) Q (F0 m (pc + 3) ls (.int r :: rest))) : W p l e R s m args below meth c H locs cells slots Q (F0 m pc ls st0) := by
  intro T hT X
  rcases hr T hT X with ⟨v, st₀, t, T', L, h0, X', hL, e1, e2, ⟨⟨r, u, hv, hp, hb⟩, hF⟩, st⟩ | ⟨q, st₀, t, T', L, E, ce, h0, X', hL, e1, e2, ⟨u, hp, hb, hF⟩, hce, hcv, hcl, st⟩
  · cases hv
    obtain ⟨k1, k2, k3⟩ := vx_keep h0 e1 hS hA hf hL hF
    obtain ⟨t2, a1, b1⟩ := kk r u t T'.heap (locs ++ L) e1.symm (by rw [← e2]; exact X'.warmed.alike) hp hb k1 k2 k3 T' rfl X'
    exact ⟨t2, st t2 a1, b1⟩
  · obtain ⟨k1, k2, k3⟩ := vx_keep h0 e1 hS hAX hf hL hF
    obtain ⟨t2, a1, b1⟩ := kx E ce q u t T'.heap (locs ++ L) e1.symm (by rw [← e2]; exact X'.warmed.alike) hp hb k1 k2 k3 (by rw [e1]; exact hce) hcv hcl T' rfl X'
    exact ⟨t2, st.trans a1, b1⟩
theorem vx_calll {S SX : Type} {post : Int64 → S → Prop} {px : SX → Prop} {B : S → State → Prop} {BX : String → SX → State → Prop} {AX : Nat → Prop} (hr : vx_Run p l e R s m args below meth c H locs cells slots mc ms (F0 m pc ls st0) rest (va_Ql post B A1 a) (vx_X px BX AX) free) (hS : va_S A0 H0 H locs) (hA : ∀ q, q < H.size → A1 q → A0 q) (hf : ∀ q, free q → A0 q) (hAX : ∀ q, q < H.size → AX q → A0 q)
    (kx : ∀ (E : String) (ce : Cell) (q9 : Addr) (u : SX) (t : State) (H1 : Heap) (locs1 : List Loc), t.heap = H1 → s.vm.Alike t.vm → px u → BX E u t → H.size ≤ H1.size → (∀ q : Nat, q < H.size → ¬ AX q → H1[q]? = H[q]?) → va_S A0 H0 H1 locs1 → H1[q9]? = some ce → ce.vm = .none → s.vm.findClass E = some ce.cls → vx_W p l e R s m args below meth c H1 locs1 (cells + mc) (slots + ms) Q (F0 m pc ls rest) q9)
    (kk : ∀ (r : Int64) (u : S) (t : State) (H1 : Heap) (locs1 : List Loc), t.heap = H1 → s.vm.Alike t.vm → post r u → B u t → H.size ≤ H1.size → (∀ q : Nat, q < H.size → ¬ A1 q → H1[q]? = H[q]?) → va_S A0 H0 H1 locs1 → W p l e R s m args below meth c H1 locs1 (cells + mc) (slots + ms) Q (F0 m (pc + 3) ls (.long r :: rest))) : W p l e R s m args below meth c H locs cells slots Q (F0 m pc ls st0) := by
  intro T hT X
  rcases hr T hT X with ⟨v, st₀, t, T', L, h0, X', hL, e1, e2, ⟨⟨r, u, hv, hp, hb⟩, hF⟩, st⟩ | ⟨q, st₀, t, T', L, E, ce, h0, X', hL, e1, e2, ⟨u, hp, hb, hF⟩, hce, hcv, hcl, st⟩
  · cases hv
    obtain ⟨k1, k2, k3⟩ := vx_keep h0 e1 hS hA hf hL hF
    obtain ⟨t2, a1, b1⟩ := kk r u t T'.heap (locs ++ L) e1.symm (by rw [← e2]; exact X'.warmed.alike) hp hb k1 k2 k3 T' rfl X'
    exact ⟨t2, st t2 a1, b1⟩
  · obtain ⟨k1, k2, k3⟩ := vx_keep h0 e1 hS hAX hf hL hF
    obtain ⟨t2, a1, b1⟩ := kx E ce q u t T'.heap (locs ++ L) e1.symm (by rw [← e2]; exact X'.warmed.alike) hp hb k1 k2 k3 (by rw [e1]; exact hce) hcv hcl T' rfl X'
    exact ⟨t2, st.trans a1, b1⟩
theorem vx_callf {S SX : Type} {post : UInt32 → S → Prop} {px : SX → Prop} {B : S → State → Prop} {BX : String → SX → State → Prop} {AX : Nat → Prop} (hr : vx_Run p l e R s m args below meth c H locs cells slots mc ms (F0 m pc ls st0) rest (va_Qf post B A1 a) (vx_X px BX AX) free) (hS : va_S A0 H0 H locs) (hA : ∀ q, q < H.size → A1 q → A0 q) (hf : ∀ q, free q → A0 q) (hAX : ∀ q, q < H.size → AX q → A0 q)
    (kx : ∀ (E : String) (ce : Cell) (q9 : Addr) (u : SX) (t : State) (H1 : Heap) (locs1 : List Loc), t.heap = H1 → s.vm.Alike t.vm → px u → BX E u t → H.size ≤ H1.size → (∀ q : Nat, q < H.size → ¬ AX q → H1[q]? = H[q]?) → va_S A0 H0 H1 locs1 → H1[q9]? = some ce → ce.vm = .none → s.vm.findClass E = some ce.cls → vx_W p l e R s m args below meth c H1 locs1 (cells + mc) (slots + ms) Q (F0 m pc ls rest) q9)
    (kk : ∀ (r : UInt32) (u : S) (t : State) (H1 : Heap) (locs1 : List Loc), t.heap = H1 → s.vm.Alike t.vm → post r u → B u t → H.size ≤ H1.size → (∀ q : Nat, q < H.size → ¬ A1 q → H1[q]? = H[q]?) → va_S A0 H0 H1 locs1 → W p l e R s m args below meth c H1 locs1 (cells + mc) (slots + ms) Q (F0 m (pc + 3) ls (.float r :: rest))) : W p l e R s m args below meth c H locs cells slots Q (F0 m pc ls st0) := by
  intro T hT X
  rcases hr T hT X with ⟨v, st₀, t, T', L, h0, X', hL, e1, e2, ⟨⟨r, u, hv, hp, hb⟩, hF⟩, st⟩ | ⟨q, st₀, t, T', L, E, ce, h0, X', hL, e1, e2, ⟨u, hp, hb, hF⟩, hce, hcv, hcl, st⟩
  · cases hv
    obtain ⟨k1, k2, k3⟩ := vx_keep h0 e1 hS hA hf hL hF
    obtain ⟨t2, a1, b1⟩ := kk r u t T'.heap (locs ++ L) e1.symm (by rw [← e2]; exact X'.warmed.alike) hp hb k1 k2 k3 T' rfl X'
    exact ⟨t2, st t2 a1, b1⟩
  · obtain ⟨k1, k2, k3⟩ := vx_keep h0 e1 hS hAX hf hL hF
    obtain ⟨t2, a1, b1⟩ := kx E ce q u t T'.heap (locs ++ L) e1.symm (by rw [← e2]; exact X'.warmed.alike) hp hb k1 k2 k3 (by rw [e1]; exact hce) hcv hcl T' rfl X'
    exact ⟨t2, st.trans a1, b1⟩
theorem vx_calld {S SX : Type} {post : UInt64 → S → Prop} {px : SX → Prop} {B : S → State → Prop} {BX : String → SX → State → Prop} {AX : Nat → Prop} (hr : vx_Run p l e R s m args below meth c H locs cells slots mc ms (F0 m pc ls st0) rest (va_Qd post B A1 a) (vx_X px BX AX) free) (hS : va_S A0 H0 H locs) (hA : ∀ q, q < H.size → A1 q → A0 q) (hf : ∀ q, free q → A0 q) (hAX : ∀ q, q < H.size → AX q → A0 q)
    (kx : ∀ (E : String) (ce : Cell) (q9 : Addr) (u : SX) (t : State) (H1 : Heap) (locs1 : List Loc), t.heap = H1 → s.vm.Alike t.vm → px u → BX E u t → H.size ≤ H1.size → (∀ q : Nat, q < H.size → ¬ AX q → H1[q]? = H[q]?) → va_S A0 H0 H1 locs1 → H1[q9]? = some ce → ce.vm = .none → s.vm.findClass E = some ce.cls → vx_W p l e R s m args below meth c H1 locs1 (cells + mc) (slots + ms) Q (F0 m pc ls rest) q9)
    (kk : ∀ (r : UInt64) (u : S) (t : State) (H1 : Heap) (locs1 : List Loc), t.heap = H1 → s.vm.Alike t.vm → post r u → B u t → H.size ≤ H1.size → (∀ q : Nat, q < H.size → ¬ A1 q → H1[q]? = H[q]?) → va_S A0 H0 H1 locs1 → W p l e R s m args below meth c H1 locs1 (cells + mc) (slots + ms) Q (F0 m (pc + 3) ls (.double r :: rest))) : W p l e R s m args below meth c H locs cells slots Q (F0 m pc ls st0) := by
  intro T hT X
  rcases hr T hT X with ⟨v, st₀, t, T', L, h0, X', hL, e1, e2, ⟨⟨r, u, hv, hp, hb⟩, hF⟩, st⟩ | ⟨q, st₀, t, T', L, E, ce, h0, X', hL, e1, e2, ⟨u, hp, hb, hF⟩, hce, hcv, hcl, st⟩
  · cases hv
    obtain ⟨k1, k2, k3⟩ := vx_keep h0 e1 hS hA hf hL hF
    obtain ⟨t2, a1, b1⟩ := kk r u t T'.heap (locs ++ L) e1.symm (by rw [← e2]; exact X'.warmed.alike) hp hb k1 k2 k3 T' rfl X'
    exact ⟨t2, st t2 a1, b1⟩
  · obtain ⟨k1, k2, k3⟩ := vx_keep h0 e1 hS hAX hf hL hF
    obtain ⟨t2, a1, b1⟩ := kx E ce q u t T'.heap (locs ++ L) e1.symm (by rw [← e2]; exact X'.warmed.alike) hp hb k1 k2 k3 (by rw [e1]; exact hce) hcv hcl T' rfl X'
    exact ⟨t2, st.trans a1, b1⟩
theorem vx_callv {S SX : Type} {post : S → Prop} {px : SX → Prop} {B : S → State → Prop} {BX : String → SX → State → Prop} {AX : Nat → Prop} (hr : vx_Run p l e R s m args below meth c H locs cells slots mc ms (F0 m pc ls st0) rest (va_Qv post B A1 a) (vx_X px BX AX) free) (hS : va_S A0 H0 H locs) (hA : ∀ q, q < H.size → A1 q → A0 q) (hf : ∀ q, free q → A0 q) (hAX : ∀ q, q < H.size → AX q → A0 q)
    (kx : ∀ (E : String) (ce : Cell) (q9 : Addr) (u : SX) (t : State) (H1 : Heap) (locs1 : List Loc), t.heap = H1 → s.vm.Alike t.vm → px u → BX E u t → H.size ≤ H1.size → (∀ q : Nat, q < H.size → ¬ AX q → H1[q]? = H[q]?) → va_S A0 H0 H1 locs1 → H1[q9]? = some ce → ce.vm = .none → s.vm.findClass E = some ce.cls → vx_W p l e R s m args below meth c H1 locs1 (cells + mc) (slots + ms) Q (F0 m pc ls rest) q9)
    (kk : ∀ (u : S) (t : State) (H1 : Heap) (locs1 : List Loc), t.heap = H1 → s.vm.Alike t.vm → post u → B u t → H.size ≤ H1.size → (∀ q : Nat, q < H.size → ¬ A1 q → H1[q]? = H[q]?) → va_S A0 H0 H1 locs1 → W p l e R s m args below meth c H1 locs1 (cells + mc) (slots + ms) Q (F0 m (pc + 3) ls (rest))) : W p l e R s m args below meth c H locs cells slots Q (F0 m pc ls st0) := by
  intro T hT X
  rcases hr T hT X with ⟨v, st₀, t, T', L, h0, X', hL, e1, e2, ⟨⟨u, hv, hp, hb⟩, hF⟩, st⟩ | ⟨q, st₀, t, T', L, E, ce, h0, X', hL, e1, e2, ⟨u, hp, hb, hF⟩, hce, hcv, hcl, st⟩
  · cases hv
    obtain ⟨k1, k2, k3⟩ := vx_keep h0 e1 hS hA hf hL hF
    obtain ⟨t2, a1, b1⟩ := kk u t T'.heap (locs ++ L) e1.symm (by rw [← e2]; exact X'.warmed.alike) hp hb k1 k2 k3 T' rfl X'
    exact ⟨t2, st t2 a1, b1⟩
  · obtain ⟨k1, k2, k3⟩ := vx_keep h0 e1 hS hAX hf hL hF
    obtain ⟨t2, a1, b1⟩ := kx E ce q u t T'.heap (locs ++ L) e1.symm (by rw [← e2]; exact X'.warmed.alike) hp hb k1 k2 k3 (by rw [e1]; exact hce) hcv hcl T' rfl X'
    exact ⟨t2, st.trans a1, b1⟩
/-- caught by the row x of this method's table; the rows ahead don't take it -/
theorem vx_catch {own name : String} {E : String} {ce : Cell} {q : Addr} (hown : s.vm.findClass own = some m.cls) (pre : List ExceptionTableEntry) (x : ExceptionTableEntry) (suf : List ExceptionTableEntry) (hsplit : c.exceptionTable.toList = pre ++ x :: suf)
    (hpass : ∀ z ∈ pre, covers z pc = false ∨ (z.catchType ≠ 0 ∧ ∃ nm : String, (Cond.classLink own z.catchType nm).before args s = true ∧ va_Nc E nm s)) (hx : covers x pc = true) (h0 : x.catchType ≠ 0)
    (hlink : (Cond.classLink own x.catchType name).before args s = true) (hcast : (Cond.castable E name).before args s = true) (hcell : H[q]? = some ce) (hv : ce.vm = .none) (hcl : s.vm.findClass E = some ce.cls)
    (kk : W p l e R s m args below meth c H locs cells slots Q (F0 m x.handlerPc ls [.ref q])) : vx_W p l e R s m args below meth c H locs cells slots Q (F0 m pc ls rest) q := by
  intro T hT X
  have hpl : e.platform.magicAccessors = ({} : Platform).magicAccessors := by rw [X.admits.platform]
  obtain ⟨c3, c4, hc3, hc4, hasg⟩ := Cond.castable_spec hcast
  cases Option.some.inj (hc3.symm.trans hcl)
  obtain ⟨c5, hc5, hcl5⟩ := Cond.classLink_spec hown hlink e.platform hpl
  cases Option.some.inj (hc4.symm.trans hc5)
  obtain ⟨vm', X', st⟩ := Stand.thenCaughtThrough X q (g := F0 m pc ls rest) rfl (Steps.refl _) (by rw [hT]; exact hcell) (by rw [hv]; rfl) (by obtain ⟨k9, h9, -⟩ := Vm.findClass_spec hcl; exact ⟨k9, h9⟩) pre x suf hsplit
    (fun z hz => by
      rcases hpass z hz with h | ⟨hz0, nm, hl1, hn1⟩
      · exact Or.inl h
      · obtain ⟨c6, hc6, hcl6⟩ := Cond.classLink_spec hown hl1 e.platform hpl
        obtain ⟨a8, b8, h1, h2, h3⟩ := hn1
        cases Option.some.inj (h1.symm.trans hcl)
        cases Option.some.inj (h2.symm.trans hc6)
        exact Or.inr ⟨hz0, _, hcl6, h3⟩) hx (Or.inr ⟨h0, c4, hcl5, hasg⟩)
  obtain ⟨t, a1, b1⟩ := kk (T.setVm vm') hT X'
  exact ⟨t, st.trans a1, b1⟩
end Rows
section Ends
variable {p : Program} {l : Launch} {e : Env} {R : Room} {s : State} {m : MethodId} {args : Array Value} {below : List Frame} {meth : Method} {c : Code} {H : Heap} {locs : List Loc} {cells slots : Nat} {Q : State → Prop}
variable {mc ms : Nat} {free : Addr → Prop} {A0 A1 : Nat → Prop} {H0 : Heap} {a : Array Value} {ls : Array Slot} {st0 rest : List Value}
variable {Qc : Array Value → State → Outcome → State → Prop} {XC : String → State → State → Prop}
/-- what a body that may throw owes at its end -/
def vx_MQ (below : List Frame) (Qc : Array Value → State → Outcome → State → Prop) (XC : String → State → State → Prop) (a : Array Value) (s : State) (mc ms : Nat) (free : Addr → Prop) : State → Prop := fun t =>
  ∃ o, t.status = .running ∧ Ended t below o ∧ vx_Q Qc XC mc ms free a s o t
theorem vx_ret {g : JFrame} {mc ms : Nat} (k : W p l e R s m args below meth c H locs cells slots (MQ below Qc args s mc ms free) g) : W p l e R s m args below meth c H locs cells slots (vx_MQ below Qc XC args s mc ms free) g := by
  intro T hT X
  obtain ⟨t, a1, o, b1, b2, b3, b4⟩ := k T hT X
  exact ⟨t, a1, o, b1, b2, Or.inl ⟨b3, b4⟩⟩
/-- not caught here: it goes on to the caller -/
theorem vx_widen {g : JFrame} {q : Addr} {k n : Nat} (h1 : cells ≤ k) (h2 : slots ≤ n) (kk : vx_W p l e R s m args below meth c H locs k n Q g q) : vx_W p l e R s m args below meth c H locs cells slots Q g q := fun T hT X => kk T hT (stand_widen X h1 h2)
theorem vx_out {pc : Nat} {E : String} {ce : Cell} {q : Addr} {mc ms : Nat} (hout : ∀ x ∈ c.exceptionTable.toList, covers x pc = false) (hlocks : meth.locks = false) (hcell : H[q]? = some ce) (hv : ce.vm = .none) (hcl : s.vm.findClass E = some ce.cls)
    (hx : ∀ t : State, t.heap = H → s.vm.Alike t.vm → XC E s t) (hf : ∀ z ∈ locs, free z.base) (hc : cells ≤ mc) (hs : slots ≤ ms) :
    vx_W p l e R s m args below meth c H locs cells slots (vx_MQ below Qc XC args s mc ms free) (F0 m pc ls rest) q := by
  intro T hT X
  obtain ⟨st1, hrun, hend, hW, hsm⟩ := X.leaveThrown q (g := F0 m pc ls rest) rfl rfl rfl hout hlocks
  have hcell9 : (T.setFrames (.throwing q :: below)).heap[q]? = some ce := by
    show T.heap[q]? = some ce
    rw [hT]; exact hcell
  exact ⟨_, st1, .threw q, hrun, hend, Or.inr ⟨q, rfl, E, ce, locs, hx _ hT hW.alike, hcell9, hv, hcl, hW, hsm.mono hc hs, hf⟩⟩
theorem vx_frame {U : State} {k n : Nat} (h : s.sameButNew ({ U with vm := s.vm } : State) locs k n) : s.heap.size ≤ U.heap.size ∧ ∀ q : Nat, q < s.heap.size → (∀ z ∈ locs, z.base ≠ q) → U.heap[q]? = s.heap[q]? := by
  obtain ⟨-, h2, -, -, -, h6⟩ := h
  refine ⟨h2, fun q hq hz => ?_⟩
  obtain ⟨c9, e1, e2, e3, e4⟩ := h6 q _ (Array.getElem?_eq_getElem hq)
  have hs : c9.slots = (s.heap[q]).slots := Array.ext_getElem? fun i => e4 i fun hm => hz _ hm rfl
  have h9 : c9 = s.heap[q] := by
    rw [hs] at e2
    exact e2
  have e5 : U.heap[q]? = some c9 := e1
  rw [e5, h9, Array.getElem?_eq_getElem hq]
/-- the words of a throw but the four that speak of the heap -/
def vx_no (w : Cond) : Bool := decide (w ≠ .isRef (.static Bundle.tN "UNASSIGNED_STACK" Bundle.steD)) && decide (w ≠ .isRef (.static Bundle.tN "SUPPRESSED_SENTINEL" Bundle.listD)) && decide (w ≠ .laysStatic Bundle.tN "UNASSIGNED_STACK" Bundle.steD) && decide (w ≠ .laysStatic Bundle.tN "SUPPRESSED_SENTINEL" Bundle.listD)
def vx_at0 (own : String) (ic : Nat) (X : String) (names : List String) : List Cond := (Bundle.ownAtoms0 own ic X names).filter vx_no
def vx_atS (own : String) (ic : Nat) (X : String) (names : List String) : List Cond := (Bundle.ownAtoms own ic X names).filter vx_no
/-- a word that the tables alone decide, or a good one -/
def vx_ot (w : Cond) : Bool := w.onTables || goodWord w
theorem vx_ot_at {args a' : Array Value} {s U : State} {w : Cond} (hW : s.WarmedH U.vm) (hvm : s.vm = U.vm) (hg : vx_ot w = true) (h : w.before args s = true) : w.before a' U = true := by
  simp only [vx_ot, Bool.or_eq_true] at hg
  rcases hg with hg | hg
  · exact va_tabs hg hvm h
  · exact word_at hW (good_of_word hg) h
/-- a list's words: the good ones out of the method's own list, the others by premises of their own -/
theorem vx_hat {args : Array Value} {s : State} {L B : List Cond} (h1 : ∀ w ∈ L.filter goodWord, w.before args s = true) (h2 : ∀ w ∈ L.filter (fun w => !goodWord w), w ∈ B) (h3 : ∀ w ∈ B, w.before args s = true) : ∀ w ∈ L, w.before args s = true := by
  intro w hw
  by_cases g : goodWord w = true
  · exact h1 w (List.mem_filter.mpr ⟨hw, g⟩)
  · refine h3 w (h2 w (List.mem_filter.mpr ⟨hw, ?_⟩))
    show (!goodWord w) = true
    cases hgw : goodWord w
    · rfl
    · exact absurd hgw g
theorem vx_c {args : Array Value} {s : State} {w : Cond} {B : List Cond} (h : w.before args s = true) (t : ∀ w ∈ B, w.before args s = true) : ∀ w' ∈ w :: B, w'.before args s = true := fun w' h' => (List.mem_cons.mp h').elim (fun e => by rw [e]; exact h) (t w')
theorem vx_n {args : Array Value} {s : State} : ∀ w ∈ ([] : List Cond), w.before args s = true := fun _ h => nomatch h
theorem vx_own {args : Array Value} {s : State} {L : List Cond} (h1 : ∀ w ∈ L.filter vx_no, w.before args s = true)
    (hU : (Cond.isRef (.static Bundle.tN "UNASSIGNED_STACK" Bundle.steD)).before args s = true) (hN : (Cond.isRef (.static Bundle.tN "SUPPRESSED_SENTINEL" Bundle.listD)).before args s = true)
    (lU : (Cond.laysStatic Bundle.tN "UNASSIGNED_STACK" Bundle.steD).before args s = true) (lN : (Cond.laysStatic Bundle.tN "SUPPRESSED_SENTINEL" Bundle.listD).before args s = true) : ∀ w ∈ L, w.before args s = true := by
  intro w hw
  by_cases e1 : w = .isRef (.static Bundle.tN "UNASSIGNED_STACK" Bundle.steD)
  · rw [e1]; exact hU
  · by_cases e2 : w = .isRef (.static Bundle.tN "SUPPRESSED_SENTINEL" Bundle.listD)
    · rw [e2]; exact hN
    · by_cases e3 : w = .laysStatic Bundle.tN "UNASSIGNED_STACK" Bundle.steD
      · rw [e3]; exact lU
      · by_cases e4 : w = .laysStatic Bundle.tN "SUPPRESSED_SENTINEL" Bundle.listD
        · rw [e4]; exact lN
        · exact h1 w (List.mem_filter.mpr ⟨hw, by unfold vx_no; rw [decide_eq_true e1, decide_eq_true e2, decide_eq_true e3, decide_eq_true e4]; rfl⟩)
/-- where a static field lies, its class's statics cell in H -/
def vx_L (C n d : String) (A : Nat → Prop) (U : State) (H : Heap) : Prop := ∃ (c : ClassId) (k : Class) (i : Nat) (f : Field) (a : Nat) (cell : Cell), U.vm.findClass C = some c ∧ U.fieldFound? C n d = some (c, k, i, f) ∧ f.isStatic = true ∧ k.statics = some a ∧ H[a]? = some cell ∧ cell.vm.isStatics = true ∧ cell.cls = c ∧ f.slot < cell.slots.size ∧ k.staticTypes[f.slot]? = some f.type ∧ ¬ A a
theorem vx_L.moved {C n d : String} {A : Nat → Prop} {u U : State} {H : Heap} (hvm : u.vm.Alike U.vm) (h : vx_L C n d A u H) : vx_L C n d A U H := by
  obtain ⟨c, k, i, f, a, cell, h1, h2, h3, h4, h5, h6, h7, h8, h9, h10⟩ := h
  obtain ⟨k', hi', he⟩ := State.fieldFound?_setVm hvm h2
  exact ⟨c, k', i, f, a, cell, by rw [hvm.findClass]; exact h1, hi', h3, by rw [he]; exact h4, h5, h6, h7, h8, by rw [he]; exact h9, h10⟩
theorem vx_L.kept {C n d : String} {A : Nat → Prop} {U : State} {H H1 : Heap} (h : vx_L C n d A U H) (hq : ∀ a : Nat, a < H.size → ¬ A a → H1[a]? = H[a]?) : vx_L C n d A U H1 := by
  obtain ⟨c, k, i, f, a, cell, h1, h2, h3, h4, h5, h6, h7, h8, h9, h10⟩ := h
  exact ⟨c, k, i, f, a, cell, h1, h2, h3, h4, by rw [hq a (Array.getElem?_eq_some_iff.mp h5).1 h10]; exact h5, h6, h7, h8, h9, h10⟩
theorem vx_L.narrow {C n d : String} {A B : Nat → Prop} {U : State} {H : Heap} (h : vx_L C n d A U H) (hAB : ∀ q, B q → A q) : vx_L C n d B U H := by
  obtain ⟨c, k, i, f, a, cell, h1, h2, h3, h4, h5, h6, h7, h8, h9, h10⟩ := h
  exact ⟨c, k, i, f, a, cell, h1, h2, h3, h4, h5, h6, h7, h8, h9, fun z => h10 (hAB _ z)⟩
theorem vx_L.word {C n d : String} {A : Nat → Prop} {s : State} {args : Array Value} (h : vx_L C n d A s s.heap) : (Cond.laysStatic C n d).before args s = true := by
  obtain ⟨c, k, i, f, a, cell, h1, h2, h3, h4, h5, h6, h7, h8, h9, -⟩ := h
  show (Cond.laysStatic C n d).holds args s none s [] = true
  exact Cond.laysStatic_of h1 h2 h3 h4 h5 h6 h7 h8 h9
/-- .. and what it holds: null or some reference -/
def vx_Zq (C n d : String) (A : Nat → Prop) (U : State) (H : Heap) : Prop := va_Zq C n d A U H ∧ vx_L C n d A U H
theorem vx_Zq.moved {C n d : String} {A : Nat → Prop} {u U : State} {H : Heap} (hvm : u.vm.Alike U.vm) (h : vx_Zq C n d A u H) : vx_Zq C n d A U H := ⟨va_Zq.moved hvm h.1, vx_L.moved hvm h.2⟩
theorem vx_Zq.kept {C n d : String} {A : Nat → Prop} {U : State} {H H1 : Heap} (h : vx_Zq C n d A U H) (hq : ∀ a : Nat, a < H.size → ¬ A a → H1[a]? = H[a]?) : vx_Zq C n d A U H1 := ⟨va_Zq.kept h.1 hq, vx_L.kept h.2 hq⟩
theorem vx_Zq.narrow {C n d : String} {A B : Nat → Prop} {U : State} {H : Heap} (h : vx_Zq C n d A U H) (hAB : ∀ q, B q → A q) : vx_Zq C n d B U H := ⟨va_Zq.narrow h.1 hAB, vx_L.narrow h.2 hAB⟩
theorem vx_Zqof {args : Array Value} {s : State} {C n d : String} {A : Nat → Prop} (hl : (Cond.laysStatic C n d).before args s = true) (hini : (Cond.initialized C).before args s = true) (h : (Cond.isRef (.static C n d)).before args s = true) (hA : ∀ a : Nat, a < s.heap.size → ¬ A a) : vx_Zq C n d A s s.heap := by
  refine ⟨va_Zqof hl hini h hA, ?_⟩
  obtain ⟨c, k, i, f, a, cell, h1, h2, h3, h4, h5, h6, h7, h8, h9⟩ := Cond.laysStatic_spec hl
  exact ⟨c, k, i, f, a, cell, h1, h2, h3, h4, h5, h6, h7, h8, h9, hA a (Array.getElem?_eq_some_iff.mp h5).1⟩
theorem vx_isRef {C n d : String} {v : Value} {A : Nat → Prop} {s : State} {args : Array Value} (h : va_Z C n d v A s s.heap) (hv : v.isRef = true) : (Cond.isRef (.static C n d)).before args s = true := by
  obtain ⟨cf, kf, fi, f, a, cell, h1, h2, h3, h4, h5, h6, h7, -⟩ := h
  have he : (Term.static C n d).eval args s none [] s = some v := by
    simp [Term.eval, State.fieldNamed?, h1, h2, h4, h5, h6, h7]
  simp only [Cond.before, Cond.holds, Cond.value, he]
  cases v <;> simp_all [Value.isRef]
theorem vx_isRefq {C n d : String} {A : Nat → Prop} {s : State} {args : Array Value} (h : va_Zq C n d A s s.heap) : (Cond.isRef (.static C n d)).before args s = true := by
  rcases h with h | ⟨t, h⟩
  · exact vx_isRef h rfl
  · exact vx_isRef h rfl
/-- the same frame, seen from here: as if the method were called anew in this heap -/
theorem vx_rebase {T : State} (X : Stand p l e R s m args below meth c T locs cells slots) {R' : Room} (hf : R'.frames ≤ R.frames) (hl : R'.locals ≤ R.locals) (hc : cells + R'.cells ≤ R.cells) (hs : slots + R'.slots ≤ R.slots) :
    Stand p l e R' ((T.setVm s.vm).setFrames (.invoking m args :: below)) m args below meth c T [] 0 0 := by
  have htop : (T.setVm s.vm).topJava?.isSome := X.here.top
  have hF : ((T.setVm s.vm).setFrames (.invoking m args :: below)).frames = .invoking m args :: below := State.frames_setFrames _ (State.cur_lt_of_top htop)
  obtain ⟨g₀, hg0⟩ := Option.isSome_iff_exists.mp htop
  obtain ⟨r, hr⟩ := State.topJava?_eq_some.mp hg0
  have hl9 : e.platform.stackLimits (T.setVm s.vm).me = e.platform.stackLimits s.me := X.limits
  have hb9 : (T.setVm s.vm).me.stackBytes = s.me.stackBytes := X.bytes
  refine ⟨X.admits, X.cas, X.clock, hF, ?_, X.hears, X.method, X.code, X.here, X.tail, X.warmed, ?_, ?_, ?_⟩
  · have h := X.room
    have hU : ((T.setVm s.vm).setFrames (.invoking m args :: below)).localsInUse = s.localsInUse := by
      rw [State.localsInUse_invoking hF (meth := meth) (c := c) X.method X.code, State.localsInUse_invoking X.frames X.method X.code]
    simp only [State.hasRoom, Bool.and_eq_true, decide_eq_true_eq] at h ⊢
    obtain ⟨⟨⟨⟨h1, h2, h3, h4, h5, h6⟩, h7⟩, h8⟩, h9⟩ := h
    rw [X.frames, List.length_cons] at h2 h3
    have q1 := X.heapSize
    have q2 := X.used
    simp only [hF, hU, List.length_cons, State.stackLimits_setFrames, State.stackBytes_setFrames, hl9, hb9]
    refine ⟨⟨⟨⟨by omega, by omega, by omega, by omega, by omega, h6⟩, ?_⟩, ?_⟩, X.book⟩
    · show T.heap.size + R'.cells ≤ e.platform.maxCells
      omega
    · show T.slotsUsed + R'.slots ≤ e.platform.maxSlots
      omega
  · rw [State.stackLimits_setFrames]; rfl
  · rw [State.stackBytes_setFrames]; rfl
  · refine ⟨?_, Nat.le_refl _, Nat.le_refl _, ?_, ?_, fun a c9 h9 => ⟨c9, h9, rfl, rfl, fun _ _ => rfl⟩⟩
    · obtain ⟨t, ht, -⟩ := State.frames_cons hr
      show T.setVm s.vm = { ((T.setVm s.vm).setFrames (.invoking m args :: below)).setFrames (T.setVm s.vm).frames with heap := T.heap, slotsUsed := T.slotsUsed }
      rw [State.setFrames_setFrames, State.setFrames_self ht]
      rfl
    · show T.slotsUsed = T.slotsUsed + ((T.heap.toList.drop T.heap.size).map (·.slots.size)).sum
      rw [List.drop_eq_nil_of_le (Nat.le_of_eq Array.length_toList)]
      rfl
    · show ((T.heap.toList.drop T.heap.size).map (·.slots.size)).sum ≤ 0
      rw [List.drop_eq_nil_of_le (Nat.le_of_eq Array.length_toList)]
      exact Nat.le_refl _
/-- 'throw new E()': new; dup; invokespecial; athrow -/
theorem vx_throw0 {cc : ByteArray} {pc : Nat} (hexec : p.tables.exec = Jvm.exec) (hb : c.code = cc) (hl : l.stackTraces = false) {own cls : String} {names : List String} {ik ic mc ms : Nat} {A : Nat → Prop}
    (hown : s.vm.findClass own = some m.cls) (hcls : Bundle.fit cls = true) (hnames : ∀ n ∈ names, Bundle.fit n = true)
    (hk : (Cond.classLink own ik cls).before args s = true) (hini : (Cond.initialized cls).before args s = true) (hat : ∀ w ∈ vx_at0 own ic cls names, w.before args s = true)
    (hgood : ∀ w ∈ Cond.classLink own ik cls :: Cond.initialized cls :: vx_at0 own ic cls names, vx_ot w = true)
    (hU : vx_Zq Bundle.tN "UNASSIGNED_STACK" Bundle.steD A s s.heap) (hN : vx_Zq Bundle.tN "SUPPRESSED_SENTINEL" Bundle.listD A s s.heap) (hS : va_S A s.heap H locs) (hsize : ls.size = c.maxLocals)
    (d0 : decode cc pc = .ok (.new ik, 3)) (d3 : decode cc (pc + 3) = .ok (.dup, 1)) (d4 : decode cc (pc + 4) = .ok (.invokespecial ic, 3)) (d7 : decode cc (pc + 7) = .ok (.athrow, 1))
    (hout : ∀ x ∈ c.exceptionTable.toList, covers x (pc + 7) = false)
    (hRframes : names.length + 3 < R.frames) (hRlocals : (rest.map fun v => v.category).sum + (13 * (names.length + 1) + 42) ≤ R.locals) (hRcells : cells + 1 ≤ R.cells) (hRslots : slots + 6 ≤ R.slots) (hlocks : meth.locks = false)
    (hx : ∀ t : State, s.vm.Alike t.vm → H.size ≤ t.heap.size → (∀ q : Nat, q < H.size → t.heap[q]? = H[q]?) → XC cls s t)
    (hf : ∀ z ∈ locs, free z.base) (hc : cells + 1 ≤ mc) (hs : slots + 6 ≤ ms) :
    W p l e R s m args below meth c H locs cells slots (vx_MQ below Qc XC args s mc ms free) (F0 m pc ls rest) := by
  intro T hT X
  have htr : e.platform.stackTraces = false := (show e.platform.stackTraces = l.stackTraces by rw [X.admits.platform]).trans hl
  have Y := vx_rebase X (R' := { frames := R.frames, locals := R.locals, cells := 1, slots := 6 }) (Nat.le_refl _) (Nat.le_refl _) hRcells hRslots
  obtain ⟨s', hA⟩ : ∃ z, z = (T.setVm s.vm).setFrames (.invoking m args :: below) := ⟨_, rfl⟩
  rw [← hA] at Y
  have hvm : s'.vm = s.vm := by rw [hA]; rfl
  have hhp : s'.heap = H := by rw [hA]; exact hT
  have hW0 : s.WarmedH s'.vm := by rw [hvm]; exact State.WarmedH.refl s
  have hat' : ∀ w ∈ vx_at0 own ic cls names, w.before args s' = true := fun w hw => vx_ot_at hW0 hvm.symm (hgood w (List.mem_cons_of_mem _ (List.mem_cons_of_mem _ hw))) (hat w hw)
  have hk' : (Cond.classLink own ik cls).before args s' = true := vx_ot_at hW0 hvm.symm (hgood _ List.mem_cons_self) hk
  have hini' : (Cond.initialized cls).before args s' = true := vx_ot_at hW0 hvm.symm (hgood _ (List.mem_cons_of_mem _ List.mem_cons_self)) hini
  have hU' : vx_Zq Bundle.tN "UNASSIGNED_STACK" Bundle.steD A s' s'.heap := by rw [hhp]; exact vx_Zq.moved hW0.alike (hU.kept hS.2.1)
  have hN' : vx_Zq Bundle.tN "SUPPRESSED_SENTINEL" Bundle.listD A s' s'.heap := by rw [hhp]; exact vx_Zq.moved hW0.alike (hN.kept hS.2.1)
  have h : ∀ w ∈ Bundle.ownAtoms0 own ic cls names, w.before args s' = true := vx_own hat' (vx_isRefq hU'.1) (vx_isRefq hN'.1) hU'.2.word hN'.2.word
  have hown' : s'.vm.findClass own = some m.cls := by rw [hvm]; exact hown
  have hins : (Cond.instantiable cls 6).before args s' = true := h _ (by simp [Bundle.ownAtoms0])
  obtain ⟨vm₁, cX, kX, hfX, hkX, -, -, X₁, st1⟩ := Y.newCold hexec (own := own) (C := cls) (index := ik) (n := 6) hown' hk' hins hini'
    (g := F0 m pc ls rest) rfl (by rw [hb]; exact d0) (Nat.le_refl _) (Nat.le_refl _)
  generalize hT1 : (T.setVm vm₁).pushCell { cls := cX, slots := kX.instanceTypes.map defaultValue, vm := .none } = T1 at X₁ st1
  have hcat : (Value.ref T.heap.size).category = 1 := rfl
  have hcellA : T1.heap[T.heap.size]? = some (freshCell cX kX) := by rw [← hT1]; exact State.heap_pushCell_size _ _
  have d3' : decode c.code (pc + 3) = .ok (.dup, 1) := by rw [hb]; exact d3
  obtain ⟨U, hsteps, hrun, hend, hW, hsame, ce, hce, hO⟩ := X₁.ctorThrow0 hexec htr (own := own) (cls := cls) (names := names) (ic := ic) hown' hcls hnames h (fun x hx => nomatch hx) hfX hkX hcellA (by rw [hhp, hT]; exact Nat.le_refl _)
    (g := { method := m, pc := pc + 4, locals := ls, stack := .ref T.heap.size :: .ref T.heap.size :: rest, locked := none }) rfl hsize rfl rfl (rest := rest) rfl
    (by rw [hb]; exact d4) (by rw [hb]; exact d7) hout hRframes (by simp only [List.map_cons, List.sum_cons, hcat]; omega) hlocks
  obtain ⟨f1, f2⟩ := vx_frame hsame
  rw [hhp] at f1 f2
  have hWs : s.WarmedH U.vm := State.WarmedH.trans hW0 hW
  have hcl : s.vm.findClass cls = some ce.cls := by
    have h9 := hO.cls
    rw [hvm] at h9
    exact h9
  have hall : s.sameButNew ({ U with vm := s.vm } : State) locs mc ms := by
    subst hA
    obtain ⟨e1, e2⟩ := hsame
    rw [State.setFrames_setFrames] at e1
    have h2 : (T.setVm s.vm).sameButNew ({ U with vm := s.vm } : State) [] (0 + 1) (0 + 6) := ⟨e1, e2⟩
    have h3 := X.same.trans h2
    rw [List.append_nil] at h3
    exact h3.mono hc hs
  refine ⟨U, ?_, .threw T.heap.size, hrun, hend, Or.inr ⟨T.heap.size, rfl, cls, ce, locs, hx U hWs.alike f1 (fun q hq => f2 q hq (fun z hz => nomatch hz)), hce, hO.vm, hcl, hWs, hall, hf⟩⟩
  refine st1 _ ?_
  show Steps p.tables e below (T1.setTop { method := m, pc := pc + 3, locals := ls, stack := .ref T.heap.size :: rest, locked := none }) _
  jvm_step X₁.here [X₁.here.top, hexec, d3', Value.category]
  exact hsteps
/-- 'throw new E("text")': new; dup; ldc; invokespecial; athrow -/
theorem vx_throwS {cc : ByteArray} {pc : Nat} (hexec : p.tables.exec = Jvm.exec) (hb : c.code = cc) (hl : l.stackTraces = false) {own cls text : String} {names : List String} {ik is ic mc ms sa : Nat} {A : Nat → Prop}
    (hown : s.vm.findClass own = some m.cls) (hcls : Bundle.fit cls = true) (hnames : ∀ n ∈ names, Bundle.fit n = true)
    (hk : (Cond.classLink own ik cls).before args s = true) (hini : (Cond.initialized cls).before args s = true) (hstr : vk_R own is text sa s) (hat : ∀ w ∈ vx_atS own ic cls names, w.before args s = true)
    (hgood : ∀ w ∈ Cond.classLink own ik cls :: Cond.initialized cls :: vx_atS own ic cls names, vx_ot w = true)
    (hU : vx_Zq Bundle.tN "UNASSIGNED_STACK" Bundle.steD A s s.heap) (hN : vx_Zq Bundle.tN "SUPPRESSED_SENTINEL" Bundle.listD A s s.heap) (hS : va_S A s.heap H locs) (hsize : ls.size = c.maxLocals)
    (d0 : decode cc pc = .ok (.new ik, 3)) (d3 : decode cc (pc + 3) = .ok (.dup, 1)) (d4 : decode cc (pc + 4) = .ok (.ldc is, 2)) (d6 : decode cc (pc + 6) = .ok (.invokespecial ic, 3)) (d9 : decode cc (pc + 9) = .ok (.athrow, 1))
    (hout : ∀ x ∈ c.exceptionTable.toList, covers x (pc + 9) = false)
    (hRframes : names.length + 3 < R.frames) (hRlocals : (rest.map fun v => v.category).sum + (13 * (names.length + 1) + 43) ≤ R.locals) (hRcells : cells + 1 ≤ R.cells) (hRslots : slots + 6 ≤ R.slots) (hlocks : meth.locks = false)
    (hx : ∀ t : State, s.vm.Alike t.vm → H.size ≤ t.heap.size → (∀ q : Nat, q < H.size → t.heap[q]? = H[q]?) → XC cls s t)
    (hf : ∀ z ∈ locs, free z.base) (hc : cells + 1 ≤ mc) (hs : slots + 6 ≤ ms) :
    W p l e R s m args below meth c H locs cells slots (vx_MQ below Qc XC args s mc ms free) (F0 m pc ls rest) := by
  intro T hT X
  have htr : e.platform.stackTraces = false := (show e.platform.stackTraces = l.stackTraces by rw [X.admits.platform]).trans hl
  have Y := vx_rebase X (R' := { frames := R.frames, locals := R.locals, cells := 1, slots := 6 }) (Nat.le_refl _) (Nat.le_refl _) hRcells hRslots
  obtain ⟨s', hA⟩ : ∃ z, z = (T.setVm s.vm).setFrames (.invoking m args :: below) := ⟨_, rfl⟩
  rw [← hA] at Y
  have hvm : s'.vm = s.vm := by rw [hA]; rfl
  have hhp : s'.heap = H := by rw [hA]; exact hT
  have hW0 : s.WarmedH s'.vm := by rw [hvm]; exact State.WarmedH.refl s
  have hat' : ∀ w ∈ vx_atS own ic cls names, w.before args s' = true := fun w hw => vx_ot_at hW0 hvm.symm (hgood w (List.mem_cons_of_mem _ (List.mem_cons_of_mem _ hw))) (hat w hw)
  have hk' : (Cond.classLink own ik cls).before args s' = true := vx_ot_at hW0 hvm.symm (hgood _ List.mem_cons_self) hk
  have hini' : (Cond.initialized cls).before args s' = true := vx_ot_at hW0 hvm.symm (hgood _ (List.mem_cons_of_mem _ List.mem_cons_self)) hini
  have hU' : vx_Zq Bundle.tN "UNASSIGNED_STACK" Bundle.steD A s' s'.heap := by rw [hhp]; exact vx_Zq.moved hW0.alike (hU.kept hS.2.1)
  have hN' : vx_Zq Bundle.tN "SUPPRESSED_SENTINEL" Bundle.listD A s' s'.heap := by rw [hhp]; exact vx_Zq.moved hW0.alike (hN.kept hS.2.1)
  have h : ∀ w ∈ Bundle.ownAtoms own ic cls names, w.before args s' = true := vx_own hat' (vx_isRefq hU'.1) (vx_isRefq hN'.1) hU'.2.word hN'.2.word
  have hown' : s'.vm.findClass own = some m.cls := by rw [hvm]; exact hown
  have hins : (Cond.instantiable cls 6).before args s' = true := h _ (by simp [Bundle.ownAtoms])
  obtain ⟨vm₁, cX, kX, hfX, hkX, -, -, X₁, st1⟩ := Y.newCold hexec (own := own) (C := cls) (index := ik) (n := 6) hown' hk' hins hini'
    (g := F0 m pc ls rest) rfl (by rw [hb]; exact d0) (Nat.le_refl _) (Nat.le_refl _)
  generalize hT1 : (T.setVm vm₁).pushCell { cls := cX, slots := kX.instanceTypes.map defaultValue, vm := .none } = T1 at X₁ st1
  have hcat : (Value.ref T.heap.size).category = 1 := rfl
  have hcellA : T1.heap[T.heap.size]? = some (freshCell cX kX) := by rw [← hT1]; exact State.heap_pushCell_size _ _
  have d3' : decode c.code (pc + 3) = .ok (.dup, 1) := by rw [hb]; exact d3
  have d4' : decode c.code (pc + 4) = .ok (.ldc is, 2) := by rw [hb]; exact d4
  have hstr' : vk_R own is text sa s' := vk_R.warm hW0 hstr
  obtain ⟨U, hsteps, hrun, hend, hW, hsame, ce, hce, hO⟩ := X₁.ctorThrowS hexec htr (own := own) (cls := cls) (names := names) (ic := ic) hown' hcls hnames h (fun x hx => nomatch hx) hfX hkX hcellA (by rw [hhp, hT]; exact Nat.le_refl _) (msg := .ref sa) rfl
    (g := { method := m, pc := pc + 6, locals := ls, stack := .ref sa :: .ref T.heap.size :: .ref T.heap.size :: rest, locked := none }) rfl hsize rfl rfl (rest := rest) rfl
    (by rw [hb]; exact d6) (by rw [hb]; exact d9) hout hRframes (by simp only [List.map_cons, List.sum_cons, hcat]; omega) hlocks
  obtain ⟨f1, f2⟩ := vx_frame hsame
  rw [hhp] at f1 f2
  have hWs : s.WarmedH U.vm := State.WarmedH.trans hW0 hW
  have hcl : s.vm.findClass cls = some ce.cls := by
    have h9 := hO.cls
    rw [hvm] at h9
    exact h9
  have hall : s.sameButNew ({ U with vm := s.vm } : State) locs mc ms := by
    subst hA
    obtain ⟨e1, e2⟩ := hsame
    rw [State.setFrames_setFrames] at e1
    have h2 : (T.setVm s.vm).sameButNew ({ U with vm := s.vm } : State) [] (0 + 1) (0 + 6) := ⟨e1, e2⟩
    have h3 := X.same.trans h2
    rw [List.append_nil] at h3
    exact h3.mono hc hs
  refine ⟨U, ?_, .threw T.heap.size, hrun, hend, Or.inr ⟨T.heap.size, rfl, cls, ce, locs, hx U hWs.alike f1 (fun q hq => f2 q hq (fun z hz => nomatch hz)), hce, hO.vm, hcl, hWs, hall, hf⟩⟩
  refine st1 _ ?_
  show Steps p.tables e below (T1.setTop { method := m, pc := pc + 3, locals := ls, stack := .ref T.heap.size :: rest, locked := none }) _
  jvm_step X₁.here [X₁.here.top, hexec, d3', Value.category]
  exact X₁.ldcString hexec (own := own) (text := text) (index := is) (a := sa) hown' hstr'.1 hstr'.2
    (g := { method := m, pc := pc + 4, locals := ls, stack := .ref T.heap.size :: .ref T.heap.size :: rest, locked := none }) rfl d4' _ hsteps
/-- 'throw new E("text")', the text by a wide index -/
theorem vx_throwSW {cc : ByteArray} {pc : Nat} (hexec : p.tables.exec = Jvm.exec) (hb : c.code = cc) (hl : l.stackTraces = false) {own cls text : String} {names : List String} {ik is ic mc ms sa : Nat} {A : Nat → Prop}
    (hown : s.vm.findClass own = some m.cls) (hcls : Bundle.fit cls = true) (hnames : ∀ n ∈ names, Bundle.fit n = true)
    (hk : (Cond.classLink own ik cls).before args s = true) (hini : (Cond.initialized cls).before args s = true) (hstr : vk_R own is text sa s) (hat : ∀ w ∈ vx_atS own ic cls names, w.before args s = true)
    (hgood : ∀ w ∈ Cond.classLink own ik cls :: Cond.initialized cls :: vx_atS own ic cls names, vx_ot w = true)
    (hU : vx_Zq Bundle.tN "UNASSIGNED_STACK" Bundle.steD A s s.heap) (hN : vx_Zq Bundle.tN "SUPPRESSED_SENTINEL" Bundle.listD A s s.heap) (hS : va_S A s.heap H locs) (hsize : ls.size = c.maxLocals)
    (d0 : decode cc pc = .ok (.new ik, 3)) (d3 : decode cc (pc + 3) = .ok (.dup, 1)) (d4 : decode cc (pc + 4) = .ok (.ldc_w is, 3)) (d7 : decode cc (pc + 7) = .ok (.invokespecial ic, 3)) (d10 : decode cc (pc + 10) = .ok (.athrow, 1))
    (hout : ∀ x ∈ c.exceptionTable.toList, covers x (pc + 10) = false)
    (hRframes : names.length + 3 < R.frames) (hRlocals : (rest.map fun v => v.category).sum + (13 * (names.length + 1) + 43) ≤ R.locals) (hRcells : cells + 1 ≤ R.cells) (hRslots : slots + 6 ≤ R.slots) (hlocks : meth.locks = false)
    (hx : ∀ t : State, s.vm.Alike t.vm → H.size ≤ t.heap.size → (∀ q : Nat, q < H.size → t.heap[q]? = H[q]?) → XC cls s t)
    (hf : ∀ z ∈ locs, free z.base) (hc : cells + 1 ≤ mc) (hs : slots + 6 ≤ ms) :
    W p l e R s m args below meth c H locs cells slots (vx_MQ below Qc XC args s mc ms free) (F0 m pc ls rest) := by
  intro T hT X
  have htr : e.platform.stackTraces = false := (show e.platform.stackTraces = l.stackTraces by rw [X.admits.platform]).trans hl
  have Y := vx_rebase X (R' := { frames := R.frames, locals := R.locals, cells := 1, slots := 6 }) (Nat.le_refl _) (Nat.le_refl _) hRcells hRslots
  obtain ⟨s', hA⟩ : ∃ z, z = (T.setVm s.vm).setFrames (.invoking m args :: below) := ⟨_, rfl⟩
  rw [← hA] at Y
  have hvm : s'.vm = s.vm := by rw [hA]; rfl
  have hhp : s'.heap = H := by rw [hA]; exact hT
  have hW0 : s.WarmedH s'.vm := by rw [hvm]; exact State.WarmedH.refl s
  have hat' : ∀ w ∈ vx_atS own ic cls names, w.before args s' = true := fun w hw => vx_ot_at hW0 hvm.symm (hgood w (List.mem_cons_of_mem _ (List.mem_cons_of_mem _ hw))) (hat w hw)
  have hk' : (Cond.classLink own ik cls).before args s' = true := vx_ot_at hW0 hvm.symm (hgood _ List.mem_cons_self) hk
  have hini' : (Cond.initialized cls).before args s' = true := vx_ot_at hW0 hvm.symm (hgood _ (List.mem_cons_of_mem _ List.mem_cons_self)) hini
  have hU' : vx_Zq Bundle.tN "UNASSIGNED_STACK" Bundle.steD A s' s'.heap := by rw [hhp]; exact vx_Zq.moved hW0.alike (hU.kept hS.2.1)
  have hN' : vx_Zq Bundle.tN "SUPPRESSED_SENTINEL" Bundle.listD A s' s'.heap := by rw [hhp]; exact vx_Zq.moved hW0.alike (hN.kept hS.2.1)
  have h : ∀ w ∈ Bundle.ownAtoms own ic cls names, w.before args s' = true := vx_own hat' (vx_isRefq hU'.1) (vx_isRefq hN'.1) hU'.2.word hN'.2.word
  have hown' : s'.vm.findClass own = some m.cls := by rw [hvm]; exact hown
  have hins : (Cond.instantiable cls 6).before args s' = true := h _ (by simp [Bundle.ownAtoms])
  obtain ⟨vm₁, cX, kX, hfX, hkX, -, -, X₁, st1⟩ := Y.newCold hexec (own := own) (C := cls) (index := ik) (n := 6) hown' hk' hins hini'
    (g := F0 m pc ls rest) rfl (by rw [hb]; exact d0) (Nat.le_refl _) (Nat.le_refl _)
  generalize hT1 : (T.setVm vm₁).pushCell { cls := cX, slots := kX.instanceTypes.map defaultValue, vm := .none } = T1 at X₁ st1
  have hcat : (Value.ref T.heap.size).category = 1 := rfl
  have hcellA : T1.heap[T.heap.size]? = some (freshCell cX kX) := by rw [← hT1]; exact State.heap_pushCell_size _ _
  have d3' : decode c.code (pc + 3) = .ok (.dup, 1) := by rw [hb]; exact d3
  have d4' : decode c.code (pc + 4) = .ok (.ldc_w is, 3) := by rw [hb]; exact d4
  have hstr' : vk_R own is text sa s' := vk_R.warm hW0 hstr
  obtain ⟨U, hsteps, hrun, hend, hW, hsame, ce, hce, hO⟩ := X₁.ctorThrowS hexec htr (own := own) (cls := cls) (names := names) (ic := ic) hown' hcls hnames h (fun x hx => nomatch hx) hfX hkX hcellA (by rw [hhp, hT]; exact Nat.le_refl _) (msg := .ref sa) rfl
    (g := { method := m, pc := pc + 7, locals := ls, stack := .ref sa :: .ref T.heap.size :: .ref T.heap.size :: rest, locked := none }) rfl hsize rfl rfl (rest := rest) rfl
    (by rw [hb]; exact d7) (by rw [hb]; exact d10) hout hRframes (by simp only [List.map_cons, List.sum_cons, hcat]; omega) hlocks
  obtain ⟨f1, f2⟩ := vx_frame hsame
  rw [hhp] at f1 f2
  have hWs : s.WarmedH U.vm := State.WarmedH.trans hW0 hW
  have hcl : s.vm.findClass cls = some ce.cls := by
    have h9 := hO.cls
    rw [hvm] at h9
    exact h9
  have hall : s.sameButNew ({ U with vm := s.vm } : State) locs mc ms := by
    subst hA
    obtain ⟨e1, e2⟩ := hsame
    rw [State.setFrames_setFrames] at e1
    have h2 : (T.setVm s.vm).sameButNew ({ U with vm := s.vm } : State) [] (0 + 1) (0 + 6) := ⟨e1, e2⟩
    have h3 := X.same.trans h2
    rw [List.append_nil] at h3
    exact h3.mono hc hs
  refine ⟨U, ?_, .threw T.heap.size, hrun, hend, Or.inr ⟨T.heap.size, rfl, cls, ce, locs, hx U hWs.alike f1 (fun q hq => f2 q hq (fun z hz => nomatch hz)), hce, hO.vm, hcl, hWs, hall, hf⟩⟩
  refine st1 _ ?_
  show Steps p.tables e below (T1.setTop { method := m, pc := pc + 3, locals := ls, stack := .ref T.heap.size :: rest, locked := none }) _
  jvm_step X₁.here [X₁.here.top, hexec, d3', Value.category]
  exact X₁.ldcStringW hexec (own := own) (text := text) (index := is) (a := sa) hown' hstr'.1 hstr'.2
    (g := { method := m, pc := pc + 4, locals := ls, stack := .ref T.heap.size :: .ref T.heap.size :: rest, locked := none }) rfl d4' _ hsteps
end Ends
section Bodies
variable {l : Launch}
theorem vx_ofW {y : MethodName} {ws ws' : List Cond} {rm : Room} {Pc : Array Value → State → Prop} {Qc : Array Value → State → Outcome → State → Prop} {XC : String → State → State → Prop} {mc ms : Nat} {free : Addr → Prop} {cc : ByteArray} {maxL : Nat} {ret : Option FieldType}
    (hy : plainName y.cls = true) (hw : ws = Cond.code y cc maxL ret :: ws')
    (body : ∀ p e s m args below meth c s₁, BodyLoose p l y (headSpec ws rm) cc maxL ret e s m args below meth c s₁ → c.maxLocals = maxL → (∀ x ∈ c.exceptionTable.toList, False) → Pc args s →
      W p l e (headSpec ws rm).room s m args below meth c s.heap [] 0 0 (vx_MQ below Qc XC args s mc ms free) (entryFrame m args maxL)) : vx_Met l y ws rm Pc Qc XC mc ms free := by
  refine MetFree.of_bodyS (code := cc) (maxLocals := maxL) (ret := ret) hy ?_ ?_
  · intro args s m h hn
    obtain ⟨meth, c, h1, h2, h3, h4, h5, h6, -, -⟩ := Cond.code_spec hn (atoms_spec (ws := ws) h _ (by rw [hw]; exact List.mem_cons_self))
    exact ⟨meth, c, h1, h2, h3, h4, h5, h6⟩
  · intro p e s m args below meth c s₁ B hml hP _
    have hh0 : s₁.heap = s.heap := by rw [B.state]; rfl
    have ht : ∀ x ∈ c.exceptionTable.toList, False := by
      obtain ⟨meth9, c9, h1, h2, -, -, -, -, h7, -⟩ := Cond.code_spec B.named (atoms_spec (ws := ws) B.pre _ (by rw [hw]; exact List.mem_cons_self))
      cases Option.some.inj (h1.symm.trans B.method)
      cases Option.some.inj (h2.symm.trans (Stand.of_body B).code)
      intro x hx
      rw [Array.isEmpty_iff.mp h7] at hx
      cases hx
    obtain ⟨t, a1, o, b1, b2, b3⟩ := body p e s m args below meth c s₁ B hml ht hP s₁ hh0 (Stand.of_body B)
    exact ⟨t, o, a1, b1, b2, b3⟩
/-- the table of a body with handlers -/
theorem vx_table {p : Program} {x y : MethodName} {S : Spec} {cc bytes : ByteArray} {maxL maxL' : Nat} {ret ret' : Option FieldType} {e : Env} {s s₁ : State} {m : MethodId} {args : Array Value} {below : List Frame} {meth : Method} {c : Code} {hh : List (Nat × Nat × Nat × Nat)}
    (B : BodyLoose p l y S cc maxL ret e s m args below meth c s₁) (h : (Cond.codeWith y bytes maxL' ret' hh).before args s = true) : c.exceptionTable.toList = tableOf hh := by
  obtain ⟨m9, meth9, c9, hn9, h1, h2, -, -, h6, -⟩ := Cond.codeWith_spec h
  cases Option.some.inj (hn9.symm.trans B.named)
  cases Option.some.inj (h1.symm.trans B.method)
  cases Option.some.inj (h2.symm.trans (Stand.of_body B).code)
  rw [← h6, table_eq]
end Bodies
end VXA
/-! ===== END ===== -/
/-! ===== BEGIN a static call of a method with an exception table ===== -/
section VXS
variable {p : Program} {l : Launch} {e : Env} {R : Room} {s : State} {m : MethodId} {args : Array Value} {below : List Frame} {meth : Method} {c : Code} {T : State} {H : Heap} {locs : List Loc} {cells slots : Nat}
abbrev vx_CSW (R : Room) (s : State) (args : Array Value) (own : String) (index : Nat) (y : MethodName) (bytes : ByteArray) (maxL : Nat) (ret : Option FieldType) (hh : List (Nat × Nat × Nat × Nat)) (ws : List Cond) (rm : Room) (mc ms n : Nat) : Prop :=
  (rm.cells = mc ∧ rm.slots = ms ∧ rm.frames + 1 ≤ R.frames ∧ 8 + (maxL + 11) + rm.locals ≤ R.locals ∧ (∀ w ∈ ws, ∀ (a' : Array Value) (U : State), s.WarmedH U.vm → w.before a' U = true) ∧ Cond.codeWith y bytes maxL ret hh ∈ ws) ∧
  (Cond.codeWith y bytes maxL ret hh).before args s = true ∧ (Cond.initialized y.cls).before args s = true ∧ (y.cls ≠ "java/lang/invoke/MethodHandle" ∧ y.cls ≠ "java/lang/invoke/VarHandle") ∧
  (∀ sig, parseMethodDescriptor y.desc = some sig → n = sig.parameters.length) ∧ (Cond.methodLink own index y).before args s = true ∧ (Cond.static y).before args s = true
theorem vx_cwSW {own : String} {index maxL mc ms : Nat} {y : MethodName} {bytes : ByteArray} {ret : Option FieldType} {hh : List (Nat × Nat × Nat × Nat)} {Ts ws ws' : List Cond} {rm : Room} (n : Nat) (ht : ∀ w ∈ Ts, w.before args s = true) (hT : GoodIn Ts (va_wsS own index y ws)) (hw : ws = Cond.codeWith y bytes maxL ret hh :: ws') (hrc : rm.cells = mc) (hrs : rm.slots = ms)
    (hd : y.cls ≠ "java/lang/invoke/MethodHandle" ∧ y.cls ≠ "java/lang/invoke/VarHandle" ∧ (parseMethodDescriptor y.desc).map (fun d => d.parameters.length) = some n) (hR : rm.frames + 1 ≤ R.frames ∧ 8 + (maxL + 11) + rm.locals ≤ R.locals) :
    vx_CSW R s args own index y bytes maxL ret hh ws rm mc ms n := by
  have ok : ∀ w ∈ va_wsS own index y ws, w.before args s = true := fun w h => ht w (hT w h).1
  have hG : GoodIn Ts ws := fun w h => hT w (by unfold va_wsS; exact List.mem_append_right _ h)
  have hc : Cond.codeWith y bytes maxL ret hh ∈ ws := by rw [hw]; exact List.mem_cons_self
  refine ⟨⟨hrc, hrs, hR.1, hR.2, pay_in ht hG, hc⟩, ht _ (hG _ hc).1, ok _ (by simp [va_wsS]), ⟨hd.1, hd.2.1⟩, fun sig h => ?_, ok _ (by simp [va_wsS]), ok _ (by simp [va_wsS])⟩
  have h2 := hd.2.2
  rw [h] at h2
  exact (Option.some.inj h2).symm
theorem vx_callSW (X : Stand p l e R s m args below meth c T locs cells slots) (hexec : p.tables.exec = Jvm.exec) {own : String} {index : Nat} {y : MethodName} {bytes : ByteArray} {maxL : Nat} {ret : Option FieldType} {hh : List (Nat × Nat × Nat × Nat)}
    (hown : s.vm.findClass own = some m.cls) (hlink : (Cond.methodLink own index y).before args s = true) (hstat : (Cond.static y).before args s = true) (hinit : (Cond.initialized y.cls).before args s = true)
    (hcode : (Cond.codeWith y bytes maxL ret hh).before args s = true) (hy : y.cls ≠ "java/lang/invoke/MethodHandle" ∧ y.cls ≠ "java/lang/invoke/VarHandle")
    {W9 : Nat} {Pre : Pt → Array Value → Prop} {Post : Pt → Array Value → Option Value → Pt → Prop} (hK : Back l R p e below s args y 3 W9 Pre Post)
    {g : JFrame} (hg : g.method = m) (hsize : g.locals.size = c.maxLocals) {argsL rest : List Value} (hlen : ∀ sig, parseMethodDescriptor y.desc = some sig → argsL.length = sig.parameters.length)
    (hstack : g.stack = argsL.reverse ++ rest) (hW : 2 * g.monitorRoom + (rest.map fun v => v.category).sum ≤ W9) (hdg : decode c.code g.pc = .ok (.invokestatic index, 3))
    (hpre : ∀ vm₁, s.WarmedH vm₁ → Pre ⟨T.setVm vm₁, locs, cells, slots⟩ argsL.toArray) :
    ∃ (v : Option Value) (vm₁ : Vm) (B : Pt), s.WarmedH vm₁ ∧ Stand p l e R s m args below meth c B.U B.locs B.cells B.slots ∧ Post ⟨T.setVm vm₁, locs, cells, slots⟩ argsL.toArray v B ∧
      ∀ target, Steps p.tables e below (B.U.setTop { g with pc := g.pc + 3, stack := v.toList ++ rest }) target → Steps p.tables e below (T.setTop g) target := by
  obtain ⟨mk, methM, cM, hnamed, hmethM, -, -, -, -, -, -, hsigM⟩ := Cond.codeWith_spec hcode
  have hstatic : methM.isStatic = true := Cond.static_spec hnamed hmethM hstat
  obtain ⟨kP, hkP, -⟩ := className_of_methodNamed hnamed
  have hinitP : kP.init = .initialized := Cond.initialized_spec (findClass_of_methodNamed hnamed) hkP hinit
  obtain ⟨vm₁, X₁, hstep₁⟩ := X.invokestatic hexec hown hlink hnamed hmethM hstatic hkP hinitP hy (g := g) hg (argsL := argsL) (rest := rest) (hlen _ hsigM) hstack hdg
  obtain ⟨v, B, X', hpost, hsteps⟩ := hK m meth c ⟨T.setVm vm₁, locs, cells, slots⟩ { g with stack := rest } (.invokestatic index) mk argsL.toArray X₁ hg hsize hdg hW (X₁.named hnamed) (hpre vm₁ X₁.warmed)
  exact ⟨v, vm₁, B, X₁.warmed, X', hpost, fun target h => hstep₁ _ fun acts => by rw [doInvoke_state]; exact hsteps.trans h⟩
theorem vx_runSW {y : MethodName} {bytes cc : ByteArray} {maxL nL mc ms n index : Nat} {ret : Option FieldType} {hh : List (Nat × Nat × Nat × Nat)} {ws : List Cond} {rm : Room} {Pc : Array Value → State → Prop} {Qc : Array Value → State → Outcome → State → Prop} {free : Addr → Prop} {Ts : List Cond} {own : String} {As rest : List Value} {g : JFrame}
    (S : CallFix p m c cc nL s args Ts own) (hM : Met l y ws rm Pc Qc mc ms free) (cw : vx_CSW R s args own index y bytes maxL ret hh ws rm mc ms n) (hp : PreS s H Pc As)
    (hg : g.method = m) (hn : As.length = n) (hsize : g.locals.size = nL) (hstack : g.stack = As.reverse ++ rest) (hW : 2 * g.monitorRoom + (rest.map fun v => v.category).sum ≤ 8) (hdg : decode cc g.pc = .ok (.invokestatic index, 3)) (hf : cells + mc ≤ R.cells ∧ slots + ms ≤ R.slots) :
    va_Run p l e R s m args below meth c H locs cells slots mc ms g rest (Qc As.toArray) (free) := by
  obtain ⟨⟨hrc, hrs, hfr, hlo, hws, hcw⟩, hcode, hini, hy, hlen, hl, hstt⟩ := cw
  have hK : Back l R p e below s args y 3 8 (PreOf R mc ms Pc) (PostOf Qc mc ms free) := va_backW (hh := hh) (bytes := bytes) (maxL := maxL) (ret := ret) hM hp.1 hrc hrs hfr hlo hws hcw (fun a' U hW => word_at hW (Or.inl (by first | rfl | simp [Cond.onTables, Cond.keeps, Cond.steady])) hini)
  obtain ⟨hx, hb, hml, ho, -⟩ := S
  intro T hT X
  obtain ⟨v, vm₁, ⟨U', l2, c2, s2⟩, hW₁, X', ⟨g', mk, t, L, e1, e2, hq, h1, hL, h2, h3⟩, st⟩ := vx_callSW X hx (hh := hh) (bytes := bytes) (maxL := maxL) (ret := ret) ho hl hstt hini hcode hy hK hg (hsize.trans hml.symm) (argsL := As) (rest := rest) (fun sig h => hn.trans (hlen sig h)) hstack hW (by rw [hb]; exact hdg)
    (fun vm₁ hW₁ => ⟨hf.1, hf.2, hp.2 (T.setVm vm₁) hT hW₁⟩)
  dsimp only [Pt.U, Pt.locs, Pt.cells, Pt.slots] at X' e1 e2 h1 h2 h3 st
  subst h1; subst h2; subst h3
  exact ⟨v, (T.setVm vm₁).calling g' mk As.toArray, t, U', L, hT, X', hL, e1, e2, hq, st⟩
/-- not caught here, past rows that name other classes: it goes on to the caller -/
theorem vx_outP {p : Program} {l : Launch} {e : Env} {R : Room} {s : State} {m : MethodId} {args : Array Value} {below : List Frame} {meth : Method} {c : Code} {H : Heap} {locs : List Loc} {cells slots : Nat} {free : Addr → Prop} {ls : Array Slot} {rest : List Value} {Qc : Array Value → State → Outcome → State → Prop} {XC : String → State → State → Prop}
    {pc : Nat} {own E : String} {ce : Cell} {q : Addr} {mc ms : Nat} (hown : s.vm.findClass own = some m.cls) (hlocks : meth.locks = false)
    (hpass : ∀ z ∈ c.exceptionTable.toList, covers z pc = false ∨ (z.catchType ≠ 0 ∧ ∃ nm : String, (Cond.classLink own z.catchType nm).before args s = true ∧ va_Nc E nm s)) (hcell : H[q]? = some ce) (hv : ce.vm = .none) (hcl : s.vm.findClass E = some ce.cls)
    (hx : ∀ t : State, t.heap = H → s.vm.Alike t.vm → XC E s t) (hf : ∀ z ∈ locs, free z.base) (hc : cells ≤ mc) (hs : slots ≤ ms) :
    vx_W p l e R s m args below meth c H locs cells slots (vx_MQ below Qc XC args s mc ms free) (F0 m pc ls rest) q := by
  intro T hT X
  have hpl : e.platform.magicAccessors = ({} : Platform).magicAccessors := by rw [X.admits.platform]
  obtain ⟨vm', hW', X', st⟩ := Stand.outThrough X hlocks q (g := F0 m pc ls rest) rfl rfl rfl (cell := ce) (by rw [hT]; exact hcell) (by rw [hv]; rfl)
    (by obtain ⟨k9, h9, -⟩ := Vm.findClass_spec hcl; exact ⟨k9, h9⟩) (fun z hz => by
      rcases hpass z hz with h | ⟨hz0, nm, hl1, hn1⟩
      · exact Or.inl h
      · obtain ⟨c6, hc6, hcl6⟩ := Cond.classLink_spec hown hl1 e.platform hpl
        obtain ⟨a8, b8, h1, h2, h3⟩ := hn1
        cases Option.some.inj (h1.symm.trans hcl)
        cases Option.some.inj (h2.symm.trans hc6)
        exact Or.inr ⟨hz0, _, hcl6, h3⟩)
  obtain ⟨g₀, hfr⟩ := X'.frames_eq
  have hcell9 : ((T.setVm vm').setFrames (.throwing q :: below)).heap[q]? = some ce := by
    show T.heap[q]? = some ce
    rw [hT]; exact hcell
  have hend : Ended ((T.setVm vm').setFrames (.throwing q :: below)) below (.threw q) := State.frames_setFrames _ (State.cur_lt_of_frames hfr)
  refine ⟨(T.setVm vm').setFrames (.throwing q :: below), ?_, .threw q, X'.here.running, hend, Or.inr ⟨q, rfl, E, ce, locs, hx _ hT (X'.ends _).1.alike, hcell9, hv, hcl, (X'.ends _).1, (X'.ends _).2.mono hc hs, hf⟩⟩
  rw [X.pushThrowing_eq]
  exact st
/-- a thing of a world lies in the heap -/
theorem vx_lt {D : va_G} {cl : List vw_C} {ws : va_W} {H1 : Heap} (h : va_P D cl ws H1) {k : Nat} {q : Nat × va_E} (hk : ws[k]? = some q) : q.1 < H1.size := (h k q hk).lt
end VXS
/-! ===== END ===== -/
/-! ===== BEGIN methods with a table of their own: called by a name, returning or throwing ===== -/
section VXH
/-! vx_backW, vx_callVX, vx_callSX, vx_callVW, vx_runVW, vx_runVX, vx_runSX, vx_ofWH follow the same proofs as their sisters above (Free/Laws.lean, Shelf42/LK1.lean); vx_outP calls Shelf42/NT130.lean (outThrough). -/
section
variable {l : Launch} {R : Room} {p : Program} {e : Env} {below : List Frame} {s : State} {sargs : Array Value} {y : MethodName} {len W9 : Nat}
theorem vx_backW {ws : List Cond} {rm : Room} {Pc : Array Value → State → Prop} {Qc : Array Value → State → Outcome → State → Prop} {XC : String → State → State → Prop} {mc ms : Nat} {free : Addr → Prop} {bytes : ByteArray} {maxL : Nat} {ret : Option FieldType} {hh : List (Nat × Nat × Nat × Nat)}
    (hM : vx_Met l y ws rm Pc Qc XC mc ms free) (hblind : FrameBlind Pc) (hrc : rm.cells = mc) (hrs : rm.slots = ms)
    (hframes : rm.frames + 1 ≤ R.frames) (hlocals : W9 + (maxL + 11) + rm.locals ≤ R.locals)
    (hws : ∀ w ∈ ws, ∀ a' U, s.WarmedH U.vm → w.before a' U = true) (hcode : Cond.codeWith y bytes maxL ret hh ∈ ws) (hinit : ∀ a' U, s.WarmedH U.vm → (Cond.initialized y.cls).before a' U = true) :
    vx_Back l R p e below s sargs y len W9 (PreOf R mc ms Pc) (PostOf Qc mc ms free) (vx_Post XC mc ms free) := by
  intro m meth c A g ig mk a X hg hsize hdg hW hn hp
  have h1 : (headSpec ws rm).pre.before a A.U = true := atoms_intro fun w hw => hws w hw _ _ X.warmed
  have h2 : (Cond.codeWith y bytes maxL ret hh).before a A.U = true := hws _ hcode _ _ X.warmed
  have h3 : (Cond.initialized y.cls).before a A.U = true := hinit _ _ X.warmed
  have h4 : A.cells + (headSpec ws rm).room.cells ≤ R.cells := by rw [show (headSpec ws rm).room.cells = mc from hrc]; exact hp.1
  have h5 : A.slots + (headSpec ws rm).room.slots ≤ R.slots := by rw [show (headSpec ws rm).room.slots = ms from hrs]; exact hp.2.1
  have hPc : Pc a (A.U.calling g mk a) := hblind _ _ _ _ hp.2.2
  obtain ⟨U, Ls, c0, s0⟩ := A
  dsimp only [Pt.U, Pt.locs, Pt.cells, Pt.slots] at h1 h2 h3 h4 h5 X hn hPc ⊢
  obtain ⟨m9, methY, cY, hn9, hmY, hcY, -, hlY, -⟩ := Cond.codeWith_spec h2
  cases Option.some.inj (hn9.symm.trans hn)
  obtain ⟨kY, hkY, -⟩ := className_of_methodNamed hn
  have hinitY : kY.init = .initialized := Cond.initialized_spec (findClass_of_methodNamed hn) hkY h3
  have h : At U g.method c below := by rw [hg]; exact X.here
  have hlocals9 : W9 + (maxL + 11) + (headSpec ws rm).room.locals ≤ R.locals := hlocals
  have happ : (headSpec ws rm).appliesLoose y e.platform (U.calling g mk a) = true :=
    Spec.appliesLoose_calling (g := g) h hdg hn hkY hinitY
      (X.room_calling (g := g) (R' := (headSpec ws rm).room) hsize hmY hcY hframes (by rw [hlY]; omega) h4 h5) h1
  obtain ⟨mid, hmid⟩ := h.above
  have hfr : (U.setTop g).frames = (.java g :: mid) ++ below := by rw [State.frames_setTop' g h.top, hmid]; rfl
  obtain ⟨o, s₂, hsteps, -, hend, hq⟩ := Steps.callFree hM p X.admits X.cas X.clock (acts := []) hfr happ hPc trivial
  have hq' : vx_Q Qc XC mc ms free a (U.calling g mk a) o s₂ := hq
  rw [State.frames_setTop' g h.top] at hend
  obtain ⟨g₀, hg0⟩ := Option.isSome_iff_exists.mp h.top
  obtain ⟨r, hr⟩ := State.topJava?_eq_some.mp hg0
  have hr' : (({ U with heap := s₂.heap, slotsUsed := s₂.slotsUsed } : State).setVm s₂.vm).frames = .java g₀ :: r := hr
  rcases hq' with ⟨hqc, L, hfe, hL⟩ | ⟨q, rfl, E, ce, L, hx, hce, hcv, hcl, hW₂, hsm, hL⟩
  · obtain ⟨⟨v, rfl⟩, hW₂, e2, q2, q3, q4, q5, q6⟩ := id hfe
    have e3 : s₂ = ({ (U.calling g mk a).setFrames s₂.frames with heap := s₂.heap, slotsUsed := s₂.slotsUsed } : State).setVm s₂.vm := by
      have : s₂ = ({ s₂ with vm := (U.calling g mk a).vm } : State).setVm s₂.vm := rfl
      rw [e2] at this
      exact this
    obtain ⟨c₂, i₂, len₂, hc₂, hd₂, hf₂⟩ := hend
    have hW' : U.WarmedH s₂.vm := hW₂
    have hcc : c₂ = c := by
      have h1 : s₂.code? g.method = U.code? g.method := by
        rw [State.code?_eq, State.code?_eq, hW'.alike.method?]
      exact Option.some.inj (hc₂.symm.trans (h1.trans h.code))
    subst hcc
    have hlen : len₂ = len := by rw [hdg] at hd₂; cases hd₂; rfl
    subst hlen
    have hs₂ : s₂ = (({ U with heap := s₂.heap, slotsUsed := s₂.slotsUsed } : State).setVm s₂.vm).setTop { g with pc := g.pc + len₂, stack := v.toList ++ g.stack } := by
      refine e3.trans ?_
      rw [hf₂, State.calling_eq h.top, State.setFrames_setFrames, State.setTop_of_frames _ hr', hr]
      rfl
    have hsame : U.sameButNew ({ U with heap := s₂.heap, slotsUsed := s₂.slotsUsed } : State) L mc ms := by
      refine ⟨?_, q2, q3, q4, q5, q6⟩
      obtain ⟨t, ht, -⟩ := State.frames_cons hr
      show ({ U with heap := s₂.heap, slotsUsed := s₂.slotsUsed } : State) = { U.setFrames U.frames with heap := s₂.heap, slotsUsed := s₂.slotsUsed }
      rw [State.setFrames_self ht]
    subst hg
    refine Or.inl ⟨v, ⟨(({ U with heap := s₂.heap, slotsUsed := s₂.slotsUsed } : State).setVm s₂.vm), Ls ++ L, c0 + mc, s0 + ms⟩,
      ⟨X.admits, X.cas, X.clock, X.frames, X.room, X.hears, X.method, X.code, (X.here.setHeapUsed s₂.heap s₂.slotsUsed).setVm hW'.alike, X.tail, State.WarmedH.trans X.warmed hW', X.limits, X.bytes, X.same.trans (hsame.setVm s.vm)⟩,
      ⟨g, mk, s₂, L, rfl, rfl, hqc, rfl, hL, rfl, rfl⟩, ?_⟩
    show Steps p.tables e below _ ((({ U with heap := s₂.heap, slotsUsed := s₂.slotsUsed } : State).setVm s₂.vm).setTop { g with pc := g.pc + len₂, stack := v.toList ++ g.stack })
    rw [← hs₂]
    exact hsteps
  · obtain ⟨e2, q2, q3, q4, q5, q6⟩ := id hsm
    have e3 : s₂ = ({ (U.calling g mk a).setFrames s₂.frames with heap := s₂.heap, slotsUsed := s₂.slotsUsed } : State).setVm s₂.vm := by
      have : s₂ = ({ s₂ with vm := (U.calling g mk a).vm } : State).setVm s₂.vm := rfl
      rw [e2] at this
      exact this
    have hf₂ : s₂.frames = .throwing q :: .java g :: U.frames.tail := hend
    have hW' : U.WarmedH s₂.vm := hW₂
    have hs₂ : s₂ = ((({ U with heap := s₂.heap, slotsUsed := s₂.slotsUsed } : State).setVm s₂.vm).setTop g).pushFrame (.throwing q) := by
      refine e3.trans ?_
      rw [hf₂, State.calling_eq h.top, State.setFrames_setFrames, State.pushFrame, State.frames_setTop _ hr', State.setTop_of_frames _ hr', State.setFrames_setFrames, hr]
      rfl
    have hsame : U.sameButNew ({ U with heap := s₂.heap, slotsUsed := s₂.slotsUsed } : State) L mc ms := by
      refine ⟨?_, q2, q3, q4, q5, q6⟩
      obtain ⟨t, ht, -⟩ := State.frames_cons hr
      show ({ U with heap := s₂.heap, slotsUsed := s₂.slotsUsed } : State) = { U.setFrames U.frames with heap := s₂.heap, slotsUsed := s₂.slotsUsed }
      rw [State.setFrames_self ht]
    subst hg
    refine Or.inr ⟨q, ⟨(({ U with heap := s₂.heap, slotsUsed := s₂.slotsUsed } : State).setVm s₂.vm), Ls ++ L, c0 + mc, s0 + ms⟩,
      ⟨X.admits, X.cas, X.clock, X.frames, X.room, X.hears, X.method, X.code, (X.here.setHeapUsed s₂.heap s₂.slotsUsed).setVm hW'.alike, X.tail, State.WarmedH.trans X.warmed hW', X.limits, X.bytes, X.same.trans (hsame.setVm s.vm)⟩,
      ⟨g, mk, s₂, L, E, ce, rfl, rfl, hx, hce, hcv, hcl, rfl, hL, rfl, rfl⟩, ?_⟩
    show Steps p.tables e below _ (((({ U with heap := s₂.heap, slotsUsed := s₂.slotsUsed } : State).setVm s₂.vm).setTop g).pushFrame (.throwing q))
    rw [← hs₂]
    exact hsteps
end
variable {p : Program} {l : Launch} {e : Env} {R : Room} {s : State} {m : MethodId} {args : Array Value} {below : List Frame} {meth : Method} {c : Code} {T : State} {H : Heap} {locs : List Loc} {cells slots : Nat}
theorem vx_callVX (X : Stand p l e R s m args below meth c T locs cells slots) (hexec : p.tables.exec = Jvm.exec) {own C : String} {index : Nat} {y : MethodName} {bytes : ByteArray} {maxL : Nat} {ret : Option FieldType} {hh : List (Nat × Nat × Nat × Nat)}
    (hown : s.vm.findClass own = some m.cls) (hlink : (Cond.methodLink own index y).before args s = true) (hinst : (Cond.instanceMethod y).before args s = true) (hsel : (Cond.selects C y y).before args s = true)
    (hcode : (Cond.codeWith y bytes maxL ret hh).before args s = true) (hy : y.cls ≠ "java/lang/invoke/MethodHandle" ∧ y.cls ≠ "java/lang/invoke/VarHandle")
    {W9 : Nat} {Pre : Pt → Array Value → Prop} {Post : Pt → Array Value → Option Value → Pt → Prop} {PostX : Pt → Array Value → Addr → Pt → Prop} (hK : vx_Back l R p e below s args y 3 W9 Pre Post PostX)
    {b : Addr} {cellB : Cell} (hcell : T.heap[b]? = some cellB) (hobj : cellB.vm.isStatics = false) (hcls : s.vm.findClass C = some cellB.cls)
    {g : JFrame} (hg : g.method = m) (hsize : g.locals.size = c.maxLocals) {argsL rest : List Value} (hlen : ∀ sig, parseMethodDescriptor y.desc = some sig → argsL.length = sig.parameters.length)
    (hstack : g.stack = argsL.reverse ++ .ref b :: rest) (hW : 2 * g.monitorRoom + (rest.map fun v => v.category).sum ≤ W9) (hdg : decode c.code g.pc = .ok (.invokevirtual index, 3))
    (hpre : ∀ vm₁, s.WarmedH vm₁ → Pre ⟨T.setVm vm₁, locs, cells, slots⟩ (Value.ref b :: argsL).toArray) :
    (∃ (v : Option Value) (vm₁ : Vm) (B : Pt), s.WarmedH vm₁ ∧ Stand p l e R s m args below meth c B.U B.locs B.cells B.slots ∧ Post ⟨T.setVm vm₁, locs, cells, slots⟩ (Value.ref b :: argsL).toArray v B ∧
      ∀ target, Steps p.tables e below (B.U.setTop { g with pc := g.pc + 3, stack := v.toList ++ rest }) target → Steps p.tables e below (T.setTop g) target) ∨
    (∃ (q : Addr) (vm₁ : Vm) (B : Pt), s.WarmedH vm₁ ∧ Stand p l e R s m args below meth c B.U B.locs B.cells B.slots ∧ PostX ⟨T.setVm vm₁, locs, cells, slots⟩ (Value.ref b :: argsL).toArray q B ∧
      Steps p.tables e below (T.setTop g) ((B.U.setTop { g with stack := rest }).pushFrame (.throwing q))) := by
  obtain ⟨mk, methM, hnamed, hmethM, hstM, habM⟩ := Cond.instanceMethod_spec hinst
  obtain ⟨m8, methM', cM, hn8, hmethM', -, -, -, -, -, -, hsigM⟩ := Cond.codeWith_spec hcode
  cases Option.some.inj (hn8.symm.trans hnamed)
  cases hmethM.symm.trans hmethM'
  obtain ⟨c2, r2, m2, q1, q2, q3, q4, kP, hkP, hkPi⟩ := Cond.selects_spec hsel
  cases hcls.symm.trans q1
  cases (State.methodFound?_of_named hnamed hy).symm.trans q2
  cases hnamed.symm.trans q3
  have hselP : selectMethod e.platform s.vm cellB.cls mk = .method mk := by rw [Launch.admits_selectMethod X.admits]; exact q4
  obtain ⟨vm₁, X₁, hstep₁⟩ := X.invokevirtual hexec hown hlink hnamed hmethM hstM hkP hkPi hy (a := b) (cell := cellB) hcell
    (fun z h => by rw [h] at hobj; cases hobj) hselP hmethM habM hkP hkPi (g := g) hg (argsL := argsL) (rest := rest) (hlen _ hsigM) hstack hdg
  rcases hK m meth c ⟨T.setVm vm₁, locs, cells, slots⟩ { g with stack := rest } (.invokevirtual index) mk (Value.ref b :: argsL).toArray X₁ hg hsize hdg hW (X₁.named hnamed) (hpre vm₁ X₁.warmed) with ⟨v, B, X', hpost, hsteps⟩ | ⟨q, B, X', hpost, hsteps⟩
  · exact Or.inl ⟨v, vm₁, B, X₁.warmed, X', hpost, fun target h => hstep₁ _ fun acts => by rw [doInvoke_state]; exact hsteps.trans h⟩
  · exact Or.inr ⟨q, vm₁, B, X₁.warmed, X', hpost, hstep₁ _ fun acts => by rw [doInvoke_state]; exact hsteps⟩
theorem vx_callSX (X : Stand p l e R s m args below meth c T locs cells slots) (hexec : p.tables.exec = Jvm.exec) {own : String} {index : Nat} {y : MethodName} {bytes : ByteArray} {maxL : Nat} {ret : Option FieldType} {hh : List (Nat × Nat × Nat × Nat)}
    (hown : s.vm.findClass own = some m.cls) (hlink : (Cond.methodLink own index y).before args s = true) (hstat : (Cond.static y).before args s = true) (hinit : (Cond.initialized y.cls).before args s = true)
    (hcode : (Cond.codeWith y bytes maxL ret hh).before args s = true) (hy : y.cls ≠ "java/lang/invoke/MethodHandle" ∧ y.cls ≠ "java/lang/invoke/VarHandle")
    {W9 : Nat} {Pre : Pt → Array Value → Prop} {Post : Pt → Array Value → Option Value → Pt → Prop} {PostX : Pt → Array Value → Addr → Pt → Prop} (hK : vx_Back l R p e below s args y 3 W9 Pre Post PostX)
    {g : JFrame} (hg : g.method = m) (hsize : g.locals.size = c.maxLocals) {argsL rest : List Value} (hlen : ∀ sig, parseMethodDescriptor y.desc = some sig → argsL.length = sig.parameters.length)
    (hstack : g.stack = argsL.reverse ++ rest) (hW : 2 * g.monitorRoom + (rest.map fun v => v.category).sum ≤ W9) (hdg : decode c.code g.pc = .ok (.invokestatic index, 3))
    (hpre : ∀ vm₁, s.WarmedH vm₁ → Pre ⟨T.setVm vm₁, locs, cells, slots⟩ argsL.toArray) :
    (∃ (v : Option Value) (vm₁ : Vm) (B : Pt), s.WarmedH vm₁ ∧ Stand p l e R s m args below meth c B.U B.locs B.cells B.slots ∧ Post ⟨T.setVm vm₁, locs, cells, slots⟩ argsL.toArray v B ∧
      ∀ target, Steps p.tables e below (B.U.setTop { g with pc := g.pc + 3, stack := v.toList ++ rest }) target → Steps p.tables e below (T.setTop g) target) ∨
    (∃ (q : Addr) (vm₁ : Vm) (B : Pt), s.WarmedH vm₁ ∧ Stand p l e R s m args below meth c B.U B.locs B.cells B.slots ∧ PostX ⟨T.setVm vm₁, locs, cells, slots⟩ argsL.toArray q B ∧
      Steps p.tables e below (T.setTop g) ((B.U.setTop { g with stack := rest }).pushFrame (.throwing q))) := by
  obtain ⟨mk, methM, cM, hnamed, hmethM, -, -, -, -, -, -, hsigM⟩ := Cond.codeWith_spec hcode
  have hstatic : methM.isStatic = true := Cond.static_spec hnamed hmethM hstat
  obtain ⟨kP, hkP, -⟩ := className_of_methodNamed hnamed
  have hinitP : kP.init = .initialized := Cond.initialized_spec (findClass_of_methodNamed hnamed) hkP hinit
  obtain ⟨vm₁, X₁, hstep₁⟩ := X.invokestatic hexec hown hlink hnamed hmethM hstatic hkP hinitP hy (g := g) hg (argsL := argsL) (rest := rest) (hlen _ hsigM) hstack hdg
  rcases hK m meth c ⟨T.setVm vm₁, locs, cells, slots⟩ { g with stack := rest } (.invokestatic index) mk argsL.toArray X₁ hg hsize hdg hW (X₁.named hnamed) (hpre vm₁ X₁.warmed) with ⟨v, B, X', hpost, hsteps⟩ | ⟨q, B, X', hpost, hsteps⟩
  · exact Or.inl ⟨v, vm₁, B, X₁.warmed, X', hpost, fun target h => hstep₁ _ fun acts => by rw [doInvoke_state]; exact hsteps.trans h⟩
  · exact Or.inr ⟨q, vm₁, B, X₁.warmed, X', hpost, hstep₁ _ fun acts => by rw [doInvoke_state]; exact hsteps⟩
theorem vx_callVW (X : Stand p l e R s m args below meth c T locs cells slots) (hexec : p.tables.exec = Jvm.exec) {own C : String} {index : Nat} {y : MethodName} {bytes : ByteArray} {maxL : Nat} {ret : Option FieldType} {hh : List (Nat × Nat × Nat × Nat)}
    (hown : s.vm.findClass own = some m.cls) (hlink : (Cond.methodLink own index y).before args s = true) (hinst : (Cond.instanceMethod y).before args s = true) (hsel : (Cond.selects C y y).before args s = true)
    (hcode : (Cond.codeWith y bytes maxL ret hh).before args s = true) (hy : y.cls ≠ "java/lang/invoke/MethodHandle" ∧ y.cls ≠ "java/lang/invoke/VarHandle")
    {W9 : Nat} {Pre : Pt → Array Value → Prop} {Post : Pt → Array Value → Option Value → Pt → Prop} (hK : Back l R p e below s args y 3 W9 Pre Post)
    {b : Addr} {cellB : Cell} (hcell : T.heap[b]? = some cellB) (hobj : cellB.vm.isStatics = false) (hcls : s.vm.findClass C = some cellB.cls)
    {g : JFrame} (hg : g.method = m) (hsize : g.locals.size = c.maxLocals) {argsL rest : List Value} (hlen : ∀ sig, parseMethodDescriptor y.desc = some sig → argsL.length = sig.parameters.length)
    (hstack : g.stack = argsL.reverse ++ .ref b :: rest) (hW : 2 * g.monitorRoom + (rest.map fun v => v.category).sum ≤ W9) (hdg : decode c.code g.pc = .ok (.invokevirtual index, 3))
    (hpre : ∀ vm₁, s.WarmedH vm₁ → Pre ⟨T.setVm vm₁, locs, cells, slots⟩ (Value.ref b :: argsL).toArray) :
    ∃ (v : Option Value) (vm₁ : Vm) (B : Pt), s.WarmedH vm₁ ∧ Stand p l e R s m args below meth c B.U B.locs B.cells B.slots ∧ Post ⟨T.setVm vm₁, locs, cells, slots⟩ (Value.ref b :: argsL).toArray v B ∧
      ∀ target, Steps p.tables e below (B.U.setTop { g with pc := g.pc + 3, stack := v.toList ++ rest }) target → Steps p.tables e below (T.setTop g) target := by
  obtain ⟨mk, methM, hnamed, hmethM, hstM, habM⟩ := Cond.instanceMethod_spec hinst
  obtain ⟨m8, methM', cM, hn8, hmethM', -, -, -, -, -, -, hsigM⟩ := Cond.codeWith_spec hcode
  cases Option.some.inj (hn8.symm.trans hnamed)
  cases hmethM.symm.trans hmethM'
  obtain ⟨c2, r2, m2, q1, q2, q3, q4, kP, hkP, hkPi⟩ := Cond.selects_spec hsel
  cases hcls.symm.trans q1
  cases (State.methodFound?_of_named hnamed hy).symm.trans q2
  cases hnamed.symm.trans q3
  have hselP : selectMethod e.platform s.vm cellB.cls mk = .method mk := by rw [Launch.admits_selectMethod X.admits]; exact q4
  obtain ⟨vm₁, X₁, hstep₁⟩ := X.invokevirtual hexec hown hlink hnamed hmethM hstM hkP hkPi hy (a := b) (cell := cellB) hcell
    (fun z h => by rw [h] at hobj; cases hobj) hselP hmethM habM hkP hkPi (g := g) hg (argsL := argsL) (rest := rest) (hlen _ hsigM) hstack hdg
  obtain ⟨v, B, X', hpost, hsteps⟩ := hK m meth c ⟨T.setVm vm₁, locs, cells, slots⟩ { g with stack := rest } (.invokevirtual index) mk (Value.ref b :: argsL).toArray X₁ hg hsize hdg hW (X₁.named hnamed) (hpre vm₁ X₁.warmed)
  exact ⟨v, vm₁, B, X₁.warmed, X', hpost, fun target h => hstep₁ _ fun acts => by rw [doInvoke_state]; exact hsteps.trans h⟩
abbrev vx_CVW (R : Room) (s : State) (args : Array Value) (own C : String) (index : Nat) (y : MethodName) (bytes : ByteArray) (maxL : Nat) (ret : Option FieldType) (hh : List (Nat × Nat × Nat × Nat)) (ws : List Cond) (rm : Room) (mc ms n : Nat) : Prop :=
  (rm.cells = mc ∧ rm.slots = ms ∧ rm.frames + 1 ≤ R.frames ∧ 8 + (maxL + 11) + rm.locals ≤ R.locals ∧ (∀ w ∈ ws, ∀ (a' : Array Value) (U : State), s.WarmedH U.vm → w.before a' U = true) ∧ Cond.codeWith y bytes maxL ret hh ∈ ws) ∧
  (Cond.codeWith y bytes maxL ret hh).before args s = true ∧ (Cond.initialized y.cls).before args s = true ∧ (y.cls ≠ "java/lang/invoke/MethodHandle" ∧ y.cls ≠ "java/lang/invoke/VarHandle") ∧
  (∀ sig, parseMethodDescriptor y.desc = some sig → n = sig.parameters.length) ∧ (Cond.methodLink own index y).before args s = true ∧ (Cond.instanceMethod y).before args s = true ∧ (Cond.selects C y y).before args s = true
theorem vx_cwVW {own C : String} {index maxL mc ms : Nat} {y : MethodName} {bytes : ByteArray} {ret : Option FieldType} {hh : List (Nat × Nat × Nat × Nat)} {Ts ws ws' : List Cond} {rm : Room} (n : Nat) (ht : ∀ w ∈ Ts, w.before args s = true) (hT : GoodIn Ts (wsV own index C y ws)) (hw : ws = Cond.codeWith y bytes maxL ret hh :: ws') (hrc : rm.cells = mc) (hrs : rm.slots = ms)
    (hd : y.cls = C ∧ y.cls ≠ "java/lang/invoke/MethodHandle" ∧ y.cls ≠ "java/lang/invoke/VarHandle" ∧ (parseMethodDescriptor y.desc).map (fun d => d.parameters.length) = some n) (hR : rm.frames + 1 ≤ R.frames ∧ 8 + (maxL + 11) + rm.locals ≤ R.locals) :
    vx_CVW R s args own C index y bytes maxL ret hh ws rm mc ms n := by
  obtain ⟨hC, hd⟩ := hd
  subst hC
  have ok : ∀ w ∈ wsV own index y.cls y ws, w.before args s = true := fun w h => ht w (hT w h).1
  have hG : GoodIn Ts ws := fun w h => hT w (by unfold wsV; exact List.mem_append_right _ h)
  have hc : Cond.codeWith y bytes maxL ret hh ∈ ws := by rw [hw]; exact List.mem_cons_self
  refine ⟨⟨hrc, hrs, hR.1, hR.2, pay_in ht hG, hc⟩, ht _ (hG _ hc).1, ok _ (by simp [wsV]), ⟨hd.1, hd.2.1⟩, fun sig h => ?_, ok _ (by simp [wsV]), ok _ (by simp [wsV]), ok _ (by simp [wsV])⟩
  have h2 := hd.2.2
  rw [h] at h2
  exact (Option.some.inj h2).symm
theorem vx_runVW {y : MethodName} {bytes cc : ByteArray} {maxL nL mc ms n index : Nat} {ret : Option FieldType} {hh : List (Nat × Nat × Nat × Nat)} {ws : List Cond} {rm : Room} {Pc : Array Value → State → Prop} {Qc : Array Value → State → Outcome → State → Prop} {free : Addr → Prop} {Ts : List Cond} {own C : String} {b : Addr} {As rest : List Value} {g : JFrame}
    (S : CallFix p m c cc nL s args Ts own) (hM : Met l y ws rm Pc Qc mc ms free) (cw : vx_CVW R s args own C index y bytes maxL ret hh ws rm mc ms n) (hp : PreV s H C b Pc As)
    (hg : g.method = m) (hn : As.length = n) (hsize : g.locals.size = nL) (hstack : g.stack = As.reverse ++ .ref b :: rest) (hW : 2 * g.monitorRoom + (rest.map fun v => v.category).sum ≤ 8) (hdg : decode cc g.pc = .ok (.invokevirtual index, 3)) (hf : cells + mc ≤ R.cells ∧ slots + ms ≤ R.slots) :
    va_Run p l e R s m args below meth c H locs cells slots mc ms g rest (Qc (Value.ref b :: As).toArray) free := by
  obtain ⟨⟨hrc, hrs, hfr, hlo, hws, hcw⟩, hcode, hini, hy, hlen, hl, hin, hse⟩ := cw
  have hK : Back l R p e below s args y 3 8 (PreOf R mc ms Pc) (PostOf Qc mc ms free) := va_backW (hh := hh) (bytes := bytes) (maxL := maxL) (ret := ret) hM hp.1 hrc hrs hfr hlo hws hcw (fun a' U hW => word_at hW (Or.inl (by first | rfl | simp [Cond.onTables, Cond.keeps, Cond.steady])) hini)
  obtain ⟨hx, hb, hml, ho, -⟩ := S
  obtain ⟨-, ⟨cellB, hcB, hoB, hclB⟩, hPc⟩ := hp
  intro T hT X
  obtain ⟨v, vm₁, ⟨U', l2, c2, s2⟩, hW₁, X', ⟨g', mk, t, L, e1, e2, hq, h1, hL, h2, h3⟩, st⟩ := vx_callVW X hx (C := C) (hh := hh) (bytes := bytes) (maxL := maxL) (ret := ret) ho hl hin hse hcode hy hK (by rw [hT]; exact hcB) hoB hclB hg (hsize.trans hml.symm) (argsL := As) (rest := rest) (fun sig h => hn.trans (hlen sig h)) hstack hW (by rw [hb]; exact hdg)
    (fun vm₁ hW₁ => ⟨hf.1, hf.2, hPc (T.setVm vm₁) hT hW₁⟩)
  dsimp only [Pt.U, Pt.locs, Pt.cells, Pt.slots] at X' e1 e2 h1 h2 h3 st
  subst h1; subst h2; subst h3
  exact ⟨v, (T.setVm vm₁).calling g' mk (Value.ref b :: As).toArray, t, U', L, hT, X', hL, e1, e2, hq, st⟩
section
variable {y : MethodName} {bytes cc : ByteArray} {maxL nL mc ms n index : Nat} {ret : Option FieldType} {ws : List Cond} {rm : Room} {Pc : Array Value → State → Prop} {Qc : Array Value → State → Outcome → State → Prop} {XC : String → State → State → Prop} {free : Addr → Prop} {Ts : List Cond} {own C : String} {b : Addr} {As rest : List Value} {g : JFrame}
theorem vx_runVX {hh : List (Nat × Nat × Nat × Nat)} (S : CallFix p m c cc nL s args Ts own) (hM : vx_Met l y ws rm Pc Qc XC mc ms free) (cw : vx_CVW R s args own C index y bytes maxL ret hh ws rm mc ms n) (hp : PreV s H C b Pc As)
    (hg : g.method = m) (hn : As.length = n) (hsize : g.locals.size = nL) (hstack : g.stack = As.reverse ++ .ref b :: rest) (hW : 2 * g.monitorRoom + (rest.map fun v => v.category).sum ≤ 8) (hdg : decode cc g.pc = .ok (.invokevirtual index, 3)) (hf : cells + mc ≤ R.cells ∧ slots + ms ≤ R.slots) :
    vx_Run p l e R s m args below meth c H locs cells slots mc ms g rest (Qc (Value.ref b :: As).toArray) XC free := by
  obtain ⟨⟨hrc, hrs, hfr, hlo, hws, hcw⟩, hcode, hini, hy, hlen, hl, hin, hse⟩ := cw
  have hK : vx_Back l R p e below s args y 3 8 (PreOf R mc ms Pc) (PostOf Qc mc ms free) (vx_Post XC mc ms free) := vx_backW (hh := hh) (bytes := bytes) (maxL := maxL) (ret := ret) hM hp.1 hrc hrs hfr hlo hws hcw (fun a' U hW => word_at hW (Or.inl (by first | rfl | simp [Cond.onTables, Cond.keeps, Cond.steady])) hini)
  obtain ⟨hx, hb, hml, ho, -⟩ := S
  obtain ⟨-, ⟨cellB, hcB, hoB, hclB⟩, hPc⟩ := hp
  intro T hT X
  rcases vx_callVX X hx (C := C) (hh := hh) (bytes := bytes) (maxL := maxL) (ret := ret) ho hl hin hse hcode hy hK (by rw [hT]; exact hcB) hoB hclB hg (hsize.trans hml.symm) (argsL := As) (rest := rest) (fun sig h => hn.trans (hlen sig h)) hstack hW (by rw [hb]; exact hdg)
    (fun vm₁ hW₁ => ⟨hf.1, hf.2, hPc (T.setVm vm₁) hT hW₁⟩) with ⟨v, vm₁, ⟨U', l2, c2, s2⟩, hW₁, X', ⟨g', mk, t, L, e1, e2, hq, h1, hL, h2, h3⟩, st⟩ | ⟨q, vm₁, ⟨U', l2, c2, s2⟩, hW₁, X', ⟨g', mk, t, L, E, ce, e1, e2, hq, hce, hcv, hcl, h1, hL, h2, h3⟩, st⟩
  · dsimp only [Pt.U, Pt.locs, Pt.cells, Pt.slots] at X' e1 e2 h1 h2 h3 st
    subst h1; subst h2; subst h3
    exact Or.inl ⟨v, (T.setVm vm₁).calling g' mk (Value.ref b :: As).toArray, t, U', L, hT, X', hL, e1, e2, hq, st⟩
  · dsimp only [Pt.U, Pt.locs, Pt.cells, Pt.slots] at X' e1 e2 h1 h2 h3 st hcl
    subst h1; subst h2; subst h3
    exact Or.inr ⟨q, (T.setVm vm₁).calling g' mk (Value.ref b :: As).toArray, t, U', L, E, ce, hT, X', hL, e1, e2, hq, hce, hcv, vx_cls hW₁ hcl, st⟩
theorem vx_runSX {hh : List (Nat × Nat × Nat × Nat)} (S : CallFix p m c cc nL s args Ts own) (hM : vx_Met l y ws rm Pc Qc XC mc ms free) (cw : vx_CSW R s args own index y bytes maxL ret hh ws rm mc ms n) (hp : PreS s H Pc As)
    (hg : g.method = m) (hn : As.length = n) (hsize : g.locals.size = nL) (hstack : g.stack = As.reverse ++ rest) (hW : 2 * g.monitorRoom + (rest.map fun v => v.category).sum ≤ 8) (hdg : decode cc g.pc = .ok (.invokestatic index, 3)) (hf : cells + mc ≤ R.cells ∧ slots + ms ≤ R.slots) :
    vx_Run p l e R s m args below meth c H locs cells slots mc ms g rest (Qc As.toArray) XC free := by
  obtain ⟨⟨hrc, hrs, hfr, hlo, hws, hcw⟩, hcode, hini, hy, hlen, hl, hstt⟩ := cw
  have hK : vx_Back l R p e below s args y 3 8 (PreOf R mc ms Pc) (PostOf Qc mc ms free) (vx_Post XC mc ms free) := vx_backW (hh := hh) (bytes := bytes) (maxL := maxL) (ret := ret) hM hp.1 hrc hrs hfr hlo hws hcw (fun a' U hW => word_at hW (Or.inl (by first | rfl | simp [Cond.onTables, Cond.keeps, Cond.steady])) hini)
  obtain ⟨hx, hb, hml, ho, -⟩ := S
  intro T hT X
  rcases vx_callSX X hx (hh := hh) (bytes := bytes) (maxL := maxL) (ret := ret) ho hl hstt hini hcode hy hK hg (hsize.trans hml.symm) (argsL := As) (rest := rest) (fun sig h => hn.trans (hlen sig h)) hstack hW (by rw [hb]; exact hdg)
    (fun vm₁ hW₁ => ⟨hf.1, hf.2, hp.2 (T.setVm vm₁) hT hW₁⟩) with ⟨v, vm₁, ⟨U', l2, c2, s2⟩, hW₁, X', ⟨g', mk, t, L, e1, e2, hq, h1, hL, h2, h3⟩, st⟩ | ⟨q, vm₁, ⟨U', l2, c2, s2⟩, hW₁, X', ⟨g', mk, t, L, E, ce, e1, e2, hq, hce, hcv, hcl, h1, hL, h2, h3⟩, st⟩
  · dsimp only [Pt.U, Pt.locs, Pt.cells, Pt.slots] at X' e1 e2 h1 h2 h3 st
    subst h1; subst h2; subst h3
    exact Or.inl ⟨v, (T.setVm vm₁).calling g' mk As.toArray, t, U', L, hT, X', hL, e1, e2, hq, st⟩
  · dsimp only [Pt.U, Pt.locs, Pt.cells, Pt.slots] at X' e1 e2 h1 h2 h3 st hcl
    subst h1; subst h2; subst h3
    exact Or.inr ⟨q, (T.setVm vm₁).calling g' mk As.toArray, t, U', L, E, ce, hT, X', hL, e1, e2, hq, hce, hcv, vx_cls hW₁ hcl, st⟩
end
end VXH
theorem vx_ofWH {l : Launch} {y : MethodName} {ws ws' : List Cond} {rm : Room} {Pc : Array Value → State → Prop} {Qc : Array Value → State → Outcome → State → Prop} {XC : String → State → State → Prop} {mc ms : Nat} {free : Addr → Prop} {cc : ByteArray} {maxL : Nat} {ret : Option FieldType} {hh : List (Nat × Nat × Nat × Nat)}
    (hy : plainName y.cls = true) (hw : ws = Cond.codeWith y cc maxL ret hh :: ws')
    (body : ∀ p e s m args below meth c s₁, BodyLoose p l y (headSpec ws rm) cc maxL ret e s m args below meth c s₁ → c.maxLocals = maxL → Pc args s →
      W p l e (headSpec ws rm).room s m args below meth c s.heap [] 0 0 (vx_MQ below Qc XC args s mc ms free) (entryFrame m args maxL)) : vx_Met l y ws rm Pc Qc XC mc ms free := by
  refine MetFree.of_bodyS (code := cc) (maxLocals := maxL) (ret := ret) hy ?_ ?_
  · intro args s m h hn
    obtain ⟨m9, meth, c, hn9, h1, h2, h3, h4, -, h5, h6, -⟩ := Cond.codeWith_spec (atoms_spec (ws := ws) h _ (by rw [hw]; exact List.mem_cons_self))
    cases hn.symm.trans hn9
    exact ⟨meth, c, h1, h2, h3, h4, h5, h6⟩
  · intro p e s m args below meth c s₁ B hml hP _
    have hh0 : s₁.heap = s.heap := by rw [B.state]; rfl
    obtain ⟨t, a1, o, b1, b2, b3⟩ := body p e s m args below meth c s₁ B hml hP s₁ hh0 (Stand.of_body B)
    exact ⟨t, o, a1, b1, b2, b3⟩
/-! ===== END ===== -/
end
section
/-! ===== BEGIN printed: names, fields, word lists, decode rows ===== -/
def RX0 : String := "CellKeeper$Alarms"
def TX0 : u_T := fun k => match k with
  | 0 => ("CellKeeper$Alarms", "debounce", "I", true)
  | 1 => ("CellKeeper$Alarms", "counts", "[I", true)
  | 2 => ("CellKeeper$Alarms", "latched", "I", false)
  | _ => ("CellKeeper$Alarms", "fresh", "Z", false)
def tyX0 : Nat → FieldType := fun k => match k with
  | 0 => .int
  | 1 => .array .int
  | 2 => .int
  | _ => .boolean
abbrev wsX00 : List Cond := u_ws RX0 TX0 4
theorem nmX0 : ∀ a, a < 4 → ∀ b, b < 4 → a ≠ b → (TX0 a).2.1 ≠ (TX0 b).2.1 := by decide +kernel
theorem tyX0_ok : ∀ k, k < 4 → parseFieldDescriptor (TX0 k).2.2.1 = some (tyX0 k) := by decide +kernel
abbrev cX0_init : ByteArray := prog_2_method_1_code
def yX0_init : MethodName := ⟨RX0, "<init>", "(I)V"⟩
abbrev cX0_beginAnew : ByteArray := prog_2_method_2_code
def yX0_beginAnew : MethodName := ⟨RX0, "beginAnew", "()V"⟩
abbrev cX0_watch : ByteArray := prog_2_method_3_code
def yX0_watch : MethodName := ⟨RX0, "watch", "(IZ)V"⟩
abbrev cX0_latch : ByteArray := prog_2_method_4_code
def yX0_latch : MethodName := ⟨RX0, "latch", "(I)V"⟩
abbrev cX0_isLatched : ByteArray := prog_2_method_5_code
def yX0_isLatched : MethodName := ⟨RX0, "isLatched", "(I)Z"⟩
abbrev cX0_anySerious : ByteArray := prog_2_method_6_code
def yX0_anySerious : MethodName := ⟨RX0, "anySerious", "()Z"⟩
abbrev cX0_dismiss : ByteArray := prog_2_method_7_code
def yX0_dismiss : MethodName := ⟨RX0, "dismiss", "(IZ)Z"⟩
def RX1 : String := "CellKeeper$Blocks"
def TX1 : u_T := fun k => match k with
  | 0 => ("CellKeeper$Blocks", "places", "I", true)
  | 1 => ("CellKeeper$Blocks", "bytes", "[B", true)
  | 2 => ("CellKeeper$Blocks", "draft", "[B", true)
  | 3 => ("CellKeeper$Blocks", "next", "I", false)
  | _ => ("CellKeeper$Blocks", "limit", "I", false)
def tyX1 : Nat → FieldType := fun k => match k with
  | 0 => .int
  | 1 => .array .byte
  | 2 => .array .byte
  | 3 => .int
  | _ => .int
abbrev wsX10 : List Cond := u_ws RX1 TX1 5
theorem nmX1 : ∀ a, a < 5 → ∀ b, b < 5 → a ≠ b → (TX1 a).2.1 ≠ (TX1 b).2.1 := by decide +kernel
theorem tyX1_ok : ∀ k, k < 5 → parseFieldDescriptor (TX1 k).2.2.1 = some (tyX1 k) := by decide +kernel
abbrev cX1_init : ByteArray := prog_3_method_1_code
def yX1_init : MethodName := ⟨RX1, "<init>", "(I)V"⟩
abbrev cX1_beginAnew : ByteArray := prog_3_method_2_code
def yX1_beginAnew : MethodName := ⟨RX1, "beginAnew", "()V"⟩
abbrev cX1_write : ByteArray := prog_3_method_3_code
def yX1_write : MethodName := ⟨RX1, "write", "(IJII)Z"⟩
abbrev cX1_placeOf : ByteArray := prog_3_method_4_code
def yX1_placeOf : MethodName := ⟨RX1, "placeOf", "(I)I"⟩
abbrev cX1_lay : ByteArray := prog_3_method_5_code
def yX1_lay : MethodName := ⟨RX1, "lay", "(IIJ)V"⟩
abbrev cX1_fetch : ByteArray := prog_3_method_6_code
def yX1_fetch : MethodName := ⟨RX1, "fetch", "(II)J"⟩
abbrev cX1_newestPlace : ByteArray := prog_3_method_7_code
def yX1_newestPlace : MethodName := ⟨RX1, "newestPlace", "()I"⟩
abbrev cX1_isGood : ByteArray := prog_3_method_8_code
def yX1_isGood : MethodName := ⟨RX1, "isGood", "(I)Z"⟩
abbrev cX1_numberAt : ByteArray := prog_3_method_9_code
def yX1_numberAt : MethodName := ⟨RX1, "numberAt", "(I)I"⟩
abbrev cX1_timeAt : ByteArray := prog_3_method_10_code
def yX1_timeAt : MethodName := ⟨RX1, "timeAt", "(I)I"⟩
abbrev cX1_partsAt : ByteArray := prog_3_method_11_code
def yX1_partsAt : MethodName := ⟨RX1, "partsAt", "(I)J"⟩
abbrev cX1_faultsAt : ByteArray := prog_3_method_12_code
def yX1_faultsAt : MethodName := ⟨RX1, "faultsAt", "(I)I"⟩
def RX2 : String := "CellKeeper$Check"
def TX2 : u_T := fun k => match k with
  | _ => ("", "", "", false)
def tyX2 : Nat → FieldType := fun k => match k with
  | _ => .int
abbrev wsX20 : List Cond := u_ws RX2 TX2 0
theorem nmX2 : ∀ a, a < 0 → ∀ b, b < 0 → a ≠ b → (TX2 a).2.1 ≠ (TX2 b).2.1 := by decide +kernel
theorem tyX2_ok : ∀ k, k < 0 → parseFieldDescriptor (TX2 k).2.2.1 = some (tyX2 k) := by decide +kernel
abbrev cX2_ofReply : ByteArray := prog_4_method_2_code
def yX2_ofReply : MethodName := ⟨RX2, "ofReply", "(JJ)I"⟩
abbrev cX2_ofRow : ByteArray := prog_4_method_3_code
def yX2_ofRow : MethodName := ⟨RX2, "ofRow", "([BII)I"⟩
abbrev cX2_withByte : ByteArray := prog_4_method_4_code
def yX2_withByte : MethodName := ⟨RX2, "withByte", "(II)I"⟩
def RX3 : String := "CellKeeper$Chip"
def TX3 : u_T := fun k => match k with
  | 0 => ("CellKeeper$Chip", "numbers", "[I", true)
  | 1 => ("CellKeeper$Chip", "alike", "[I", true)
  | 2 => ("CellKeeper$Chip", "currents", "[D", true)
  | 3 => ("CellKeeper$Chip", "status", "I", false)
  | 4 => ("CellKeeper$Chip", "used", "I", false)
  | 5 => ("CellKeeper$Chip", "age", "I", false)
  | 6 => ("CellKeeper$Chip", "degrees", "D", false)
  | _ => ("CellKeeper$Chip", "bleeds", "I", false)
def tyX3 : Nat → FieldType := fun k => match k with
  | 0 => .array .int
  | 1 => .array .int
  | 2 => .array .double
  | 3 => .int
  | 4 => .int
  | 5 => .int
  | 6 => .double
  | _ => .int
abbrev wsX30 : List Cond := u_ws RX3 TX3 8
theorem nmX3 : ∀ a, a < 8 → ∀ b, b < 8 → a ≠ b → (TX3 a).2.1 ≠ (TX3 b).2.1 := by decide +kernel
theorem tyX3_ok : ∀ k, k < 8 → parseFieldDescriptor (TX3 k).2.2.1 = some (tyX3 k) := by decide +kernel
abbrev cX3_init : ByteArray := prog_5_method_1_code
def yX3_init : MethodName := ⟨RX3, "<init>", "()V"⟩
abbrev cX3_beginAnew : ByteArray := prog_5_method_2_code
def yX3_beginAnew : MethodName := ⟨RX3, "beginAnew", "()V"⟩
abbrev cX3_take : ByteArray := prog_5_method_3_code
def yX3_take : MethodName := ⟨RX3, "take", "(JJD)V"⟩
abbrev cX3_numberIn : ByteArray := prog_5_method_4_code
def yX3_numberIn : MethodName := ⟨RX3, "numberIn", "(JJI)I"⟩
abbrev cX3_isStale : ByteArray := prog_5_method_5_code
def yX3_isStale : MethodName := ⟨RX3, "isStale", "()Z"⟩
abbrev cX3_isValid : ByteArray := prog_5_method_6_code
def yX3_isValid : MethodName := ⟨RX3, "isValid", "(I)Z"⟩
abbrev cX3_isStuck : ByteArray := prog_5_method_7_code
def yX3_isStuck : MethodName := ⟨RX3, "isStuck", "(I)Z"⟩
abbrev cX3_currentsSwing : ByteArray := prog_5_method_8_code
def yX3_currentsSwing : MethodName := ⟨RX3, "currentsSwing", "()Z"⟩
abbrev cX3_cellsToBleed : ByteArray := prog_5_method_9_code
def yX3_cellsToBleed : MethodName := ⟨RX3, "cellsToBleed", "(II)I"⟩
def RX4 : String := "CellKeeper$Contactors"
def TX4 : u_T := fun k => match k with
  | 0 => ("CellKeeper$Contactors", "state", "I", false)
  | _ => ("CellKeeper$Contactors", "ticks", "I", false)
def tyX4 : Nat → FieldType := fun k => match k with
  | 0 => .int
  | _ => .int
abbrev wsX40 : List Cond := u_ws RX4 TX4 2
theorem nmX4 : ∀ a, a < 2 → ∀ b, b < 2 → a ≠ b → (TX4 a).2.1 ≠ (TX4 b).2.1 := by decide +kernel
theorem tyX4_ok : ∀ k, k < 2 → parseFieldDescriptor (TX4 k).2.2.1 = some (tyX4 k) := by decide +kernel
abbrev cX4_init : ByteArray := prog_6_method_1_code
def yX4_init : MethodName := ⟨RX4, "<init>", "()V"⟩
abbrev cX4_beginAnew : ByteArray := prog_6_method_2_code
def yX4_beginAnew : MethodName := ⟨RX4, "beginAnew", "()V"⟩
abbrev cX4_step : ByteArray := prog_6_method_3_code
def yX4_step : MethodName := ⟨RX4, "step", "(ZILCellKeeper$Survey;LCellKeeper$Alarms;)V"⟩
abbrev cX4_precharged : ByteArray := prog_6_method_4_code
def yX4_precharged : MethodName := ⟨RX4, "precharged", "(ILCellKeeper$Survey;LCellKeeper$Alarms;)I"⟩
abbrev cX4_opened : ByteArray := prog_6_method_5_code
def yX4_opened : MethodName := ⟨RX4, "opened", "(ILCellKeeper$Survey;LCellKeeper$Alarms;)I"⟩
def RX5 : String := "CellKeeper$Survey"
def TX5 : u_T := fun k => match k with
  | 0 => ("CellKeeper$Survey", "staleChip", "Z", false)
  | 1 => ("CellKeeper$Survey", "invalidCell", "Z", false)
  | 2 => ("CellKeeper$Survey", "sum", "I", false)
  | 3 => ("CellKeeper$Survey", "least", "I", false)
  | 4 => ("CellKeeper$Survey", "greatest", "I", false)
  | 5 => ("CellKeeper$Survey", "hottest", "D", false)
  | _ => ("CellKeeper$Survey", "coldest", "D", false)
def tyX5 : Nat → FieldType := fun k => match k with
  | 0 => .boolean
  | 1 => .boolean
  | 2 => .int
  | 3 => .int
  | 4 => .int
  | 5 => .double
  | _ => .double
abbrev wsX50 : List Cond := u_ws RX5 TX5 7
theorem nmX5 : ∀ a, a < 7 → ∀ b, b < 7 → a ≠ b → (TX5 a).2.1 ≠ (TX5 b).2.1 := by decide +kernel
theorem tyX5_ok : ∀ k, k < 7 → parseFieldDescriptor (TX5 k).2.2.1 = some (tyX5 k) := by decide +kernel
abbrev cX5_init : ByteArray := prog_7_method_1_code
def yX5_init : MethodName := ⟨RX5, "<init>", "()V"⟩
abbrev cX5_look : ByteArray := prog_7_method_2_code
def yX5_look : MethodName := ⟨RX5, "look", "([LCellKeeper$Chip;)V"⟩
abbrev cX5_lookAtCells : ByteArray := prog_7_method_3_code
def yX5_lookAtCells : MethodName := ⟨RX5, "lookAtCells", "(LCellKeeper$Chip;)V"⟩
abbrev cX5_allValid : ByteArray := prog_7_method_4_code
def yX5_allValid : MethodName := ⟨RX5, "allValid", "()Z"⟩
def RX6 : String := "CellKeeper"
def TX6 : u_T := fun k => match k with
  | 0 => ("CellKeeper", "chain", "[LCellKeeper$Chip;", true)
  | 1 => ("CellKeeper", "capacity", "I", true)
  | 2 => ("CellKeeper", "every", "I", true)
  | 3 => ("CellKeeper", "survey", "LCellKeeper$Survey;", true)
  | 4 => ("CellKeeper", "alarms", "LCellKeeper$Alarms;", true)
  | 5 => ("CellKeeper", "contactors", "LCellKeeper$Contactors;", true)
  | 6 => ("CellKeeper", "blocks", "LCellKeeper$Blocks;", true)
  | 7 => ("CellKeeper", "dark", "Z", false)
  | 8 => ("CellKeeper", "time", "I", false)
  | 9 => ("CellKeeper", "charge", "D", false)
  | 10 => ("CellKeeper", "through", "D", false)
  | 11 => ("CellKeeper", "rest", "I", false)
  | 12 => ("CellKeeper", "amperes", "D", false)
  | 13 => ("CellKeeper", "bus", "I", false)
  | 14 => ("CellKeeper", "wanted", "Z", false)
  | 15 => ("CellKeeper", "mayGive", "D", false)
  | _ => ("CellKeeper", "mayTake", "D", false)
def tyX6 : Nat → FieldType := fun k => match k with
  | 0 => .array (.object "CellKeeper$Chip")
  | 1 => .int
  | 2 => .int
  | 3 => .object "CellKeeper$Survey"
  | 4 => .object "CellKeeper$Alarms"
  | 5 => .object "CellKeeper$Contactors"
  | 6 => .object "CellKeeper$Blocks"
  | 7 => .boolean
  | 8 => .int
  | 9 => .double
  | 10 => .double
  | 11 => .int
  | 12 => .double
  | 13 => .int
  | 14 => .boolean
  | 15 => .double
  | _ => .double
abbrev wsX60 : List Cond := u_ws RX6 TX6 17
theorem nmX6 : ∀ a, a < 17 → ∀ b, b < 17 → a ≠ b → (TX6 a).2.1 ≠ (TX6 b).2.1 := by decide +kernel
theorem tyX6_ok : ∀ k, k < 17 → parseFieldDescriptor (TX6 k).2.2.1 = some (tyX6 k) := by decide +kernel
abbrev cX6_init : ByteArray := prog_1_method_1_code
def yX6_init : MethodName := ⟨RX6, "<init>", "(IIIII)V"⟩
abbrev cX6_chips : ByteArray := prog_1_method_2_code
def yX6_chips : MethodName := ⟨RX6, "chips", "()I"⟩
abbrev cX6_seal : ByteArray := prog_1_method_3_code
def yX6_seal : MethodName := ⟨RX6, "seal", "(JJ)I"⟩
abbrev cX6_reply : ByteArray := prog_1_method_4_code
def yX6_reply : MethodName := ⟨RX6, "reply", "(IJJ)Z"⟩
abbrev cX6_current : ByteArray := prog_1_method_5_code
def yX6_current : MethodName := ⟨RX6, "current", "(D)V"⟩
abbrev cX6_warm : ByteArray := prog_1_method_6_code
def yX6_warm : MethodName := ⟨RX6, "warm", "(ID)V"⟩
abbrev cX6_bus : ByteArray := prog_1_method_7_code
def yX6_bus : MethodName := ⟨RX6, "bus", "(I)V"⟩
abbrev cX6_want : ByteArray := prog_1_method_8_code
def yX6_want : MethodName := ⟨RX6, "want", "(Z)V"⟩
abbrev cX6_set : ByteArray := prog_1_method_9_code
def yX6_set : MethodName := ⟨RX6, "set", "(D)V"⟩
abbrev cX6_tick : ByteArray := prog_1_method_10_code
def yX6_tick : MethodName := ⟨RX6, "tick", "(I)I"⟩
abbrev cX6_reset : ByteArray := prog_1_method_11_code
def yX6_reset : MethodName := ⟨RX6, "reset", "(I)Z"⟩
abbrev cX6_cut : ByteArray := prog_1_method_12_code
def yX6_cut : MethodName := ⟨RX6, "cut", "(I)V"⟩
abbrev cX6_power : ByteArray := prog_1_method_13_code
def yX6_power : MethodName := ⟨RX6, "power", "()I"⟩
abbrev cX6_off : ByteArray := prog_1_method_14_code
def yX6_off : MethodName := ⟨RX6, "off", "()Z"⟩
abbrev cX6_time : ByteArray := prog_1_method_15_code
def yX6_time : MethodName := ⟨RX6, "time", "()I"⟩
abbrev cX6_charge : ByteArray := prog_1_method_16_code
def yX6_charge : MethodName := ⟨RX6, "charge", "()D"⟩
abbrev cX6_percent : ByteArray := prog_1_method_17_code
def yX6_percent : MethodName := ⟨RX6, "percent", "()I"⟩
abbrev cX6_through : ByteArray := prog_1_method_18_code
def yX6_through : MethodName := ⟨RX6, "through", "()D"⟩
abbrev cX6_allowed : ByteArray := prog_1_method_19_code
def yX6_allowed : MethodName := ⟨RX6, "allowed", "(Z)D"⟩
abbrev cX6_valid : ByteArray := prog_1_method_20_code
def yX6_valid : MethodName := ⟨RX6, "valid", "(II)Z"⟩
abbrev cX6_bleeding : ByteArray := prog_1_method_21_code
def yX6_bleeding : MethodName := ⟨RX6, "bleeding", "(I)I"⟩
abbrev cX6_faults : ByteArray := prog_1_method_22_code
def yX6_faults : MethodName := ⟨RX6, "faults", "()I"⟩
abbrev cX6_count : ByteArray := prog_1_method_23_code
def yX6_count : MethodName := ⟨RX6, "count", "(I)I"⟩
abbrev cX6_journal : ByteArray := prog_1_method_24_code
def yX6_journal : MethodName := ⟨RX6, "journal", "(I)I"⟩
abbrev cX6_spoil : ByteArray := prog_1_method_25_code
def yX6_spoil : MethodName := ⟨RX6, "spoil", "(II)V"⟩
abbrev cX6_nearest : ByteArray := prog_1_method_26_code
def yX6_nearest : MethodName := ⟨RX6, "nearest", "(III)I"⟩
abbrev cX6_needPower : ByteArray := prog_1_method_27_code
def yX6_needPower : MethodName := ⟨RX6, "needPower", "()V"⟩
abbrev cX6_needChip : ByteArray := prog_1_method_28_code
def yX6_needChip : MethodName := ⟨RX6, "needChip", "(I)V"⟩
abbrev cX6_needIndex : ByteArray := prog_1_method_29_code
def yX6_needIndex : MethodName := ⟨RX6, "needIndex", "(II)V"⟩
abbrev cX6_needWhole : ByteArray := prog_1_method_30_code
def yX6_needWhole : MethodName := ⟨RX6, "needWhole", "(III)V"⟩
abbrev cX6_needAmount : ByteArray := prog_1_method_31_code
def yX6_needAmount : MethodName := ⟨RX6, "needAmount", "(DII)V"⟩
abbrev cX6_beginAnew : ByteArray := prog_1_method_32_code
def yX6_beginAnew : MethodName := ⟨RX6, "beginAnew", "()V"⟩
abbrev cX6_chargeOfParts : ByteArray := prog_1_method_33_code
def yX6_chargeOfParts : MethodName := ⟨RX6, "chargeOfParts", "(J)D"⟩
abbrev cX6_passOneTick : ByteArray := prog_1_method_34_code
def yX6_passOneTick : MethodName := ⟨RX6, "passOneTick", "()V"⟩
abbrev cX6_currentSize : ByteArray := prog_1_method_35_code
def yX6_currentSize : MethodName := ⟨RX6, "currentSize", "()D"⟩
abbrev cX6_moveCharge : ByteArray := prog_1_method_36_code
def yX6_moveCharge : MethodName := ⟨RX6, "moveCharge", "()V"⟩
abbrev cX6_partsAtRest : ByteArray := prog_1_method_37_code
def yX6_partsAtRest : MethodName := ⟨RX6, "partsAtRest", "(I)I"⟩
abbrev cX6_tellAllowed : ByteArray := prog_1_method_38_code
def yX6_tellAllowed : MethodName := ⟨RX6, "tellAllowed", "()V"⟩
abbrev cX6_heatShare : ByteArray := prog_1_method_39_code
def yX6_heatShare : MethodName := ⟨RX6, "heatShare", "(D)I"⟩
abbrev cX6_coldShare : ByteArray := prog_1_method_40_code
def yX6_coldShare : MethodName := ⟨RX6, "coldShare", "(D)I"⟩
abbrev cX6_chargeShare : ByteArray := prog_1_method_41_code
def yX6_chargeShare : MethodName := ⟨RX6, "chargeShare", "(D)I"⟩
abbrev cX6_wholeCapacities : ByteArray := prog_1_method_42_code
def yX6_wholeCapacities : MethodName := ⟨RX6, "wholeCapacities", "(D)I"⟩
abbrev cX6_watchCauses : ByteArray := prog_1_method_43_code
def yX6_watchCauses : MethodName := ⟨RX6, "watchCauses", "()V"⟩
abbrev cX6_letBleed : ByteArray := prog_1_method_44_code
def yX6_letBleed : MethodName := ⟨RX6, "letBleed", "()V"⟩
abbrev cX6_writeBlock : ByteArray := prog_1_method_45_code
def yX6_writeBlock : MethodName := ⟨RX6, "writeBlock", "()V"⟩
def RX7 : String := "CellKeeperModel"
def TX7 : u_T := fun k => match k with
  | 0 => ("CellKeeperModel", "thrown", "I", false)
  | 1 => ("CellKeeperModel", "chips", "I", false)
  | 2 => ("CellKeeperModel", "blocks", "I", false)
  | 3 => ("CellKeeperModel", "capacity", "J", false)
  | 4 => ("CellKeeperModel", "debounce", "I", false)
  | 5 => ("CellKeeperModel", "every", "I", false)
  | 6 => ("CellKeeperModel", "journal", "[I", true)
  | 7 => ("CellKeeperModel", "block", "[I", true)
  | 8 => ("CellKeeperModel", "next", "I", false)
  | 9 => ("CellKeeperModel", "off", "Z", false)
  | 10 => ("CellKeeperModel", "time", "I", false)
  | 11 => ("CellKeeperModel", "charge", "J", false)
  | 12 => ("CellKeeperModel", "through", "J", false)
  | 13 => ("CellKeeperModel", "current", "J", false)
  | 14 => ("CellKeeperModel", "warm", "[J", true)
  | 15 => ("CellKeeperModel", "bus", "I", false)
  | 16 => ("CellKeeperModel", "wanted", "Z", false)
  | 17 => ("CellKeeperModel", "rest", "I", false)
  | 18 => ("CellKeeperModel", "numbers", "[I", true)
  | 19 => ("CellKeeperModel", "currents", "[J", true)
  | 20 => ("CellKeeperModel", "status", "[I", true)
  | 21 => ("CellKeeperModel", "used", "[I", true)
  | 22 => ("CellKeeperModel", "age", "[I", true)
  | 23 => ("CellKeeperModel", "given", "J", false)
  | 24 => ("CellKeeperModel", "taken", "J", false)
  | 25 => ("CellKeeperModel", "counts", "[I", true)
  | 26 => ("CellKeeperModel", "faults", "I", false)
  | 27 => ("CellKeeperModel", "fresh", "Z", false)
  | 28 => ("CellKeeperModel", "state", "I", false)
  | 29 => ("CellKeeperModel", "stateTicks", "I", false)
  | 30 => ("CellKeeperModel", "bleeding", "[I", true)
  | _ => ("CellKeeperModel", "cut", "I", false)
def tyX7 : Nat → FieldType := fun k => match k with
  | 0 => .int
  | 1 => .int
  | 2 => .int
  | 3 => .long
  | 4 => .int
  | 5 => .int
  | 6 => .array .int
  | 7 => .array .int
  | 8 => .int
  | 9 => .boolean
  | 10 => .int
  | 11 => .long
  | 12 => .long
  | 13 => .long
  | 14 => .array .long
  | 15 => .int
  | 16 => .boolean
  | 17 => .int
  | 18 => .array .int
  | 19 => .array .long
  | 20 => .array .int
  | 21 => .array .int
  | 22 => .array .int
  | 23 => .long
  | 24 => .long
  | 25 => .array .int
  | 26 => .int
  | 27 => .boolean
  | 28 => .int
  | 29 => .int
  | 30 => .array .int
  | _ => .int
abbrev wsX70 : List Cond := u_ws RX7 TX7 32
theorem nmX7 : ∀ a, a < 32 → ∀ b, b < 32 → a ≠ b → (TX7 a).2.1 ≠ (TX7 b).2.1 := by decide +kernel
theorem tyX7_ok : ∀ k, k < 32 → parseFieldDescriptor (TX7 k).2.2.1 = some (tyX7 k) := by decide +kernel
abbrev cX7_init : ByteArray := prog_9_method_1_code
def yX7_init : MethodName := ⟨RX7, "<init>", "(IIIII)V"⟩
abbrev cX7_nearest : ByteArray := prog_9_method_2_code
def yX7_nearest : MethodName := ⟨RX7, "nearest", "(III)I"⟩
abbrev cX7_thrown : ByteArray := prog_9_method_3_code
def yX7_thrown : MethodName := ⟨RX7, "thrown", "()I"⟩
abbrev cX7_chips : ByteArray := prog_9_method_4_code
def yX7_chips : MethodName := ⟨RX7, "chips", "()I"⟩
abbrev cX7_checked : ByteArray := prog_9_method_5_code
def yX7_checked : MethodName := ⟨RX7, "checked", "(II)I"⟩
abbrev cX7_byteOf : ByteArray := prog_9_method_6_code
def yX7_byteOf : MethodName := ⟨RX7, "byteOf", "(JJI)I"⟩
abbrev cX7_sealOf : ByteArray := prog_9_method_7_code
def yX7_sealOf : MethodName := ⟨RX7, "sealOf", "(JJ)I"⟩
abbrev cX7_seal : ByteArray := prog_9_method_8_code
def yX7_seal : MethodName := ⟨RX7, "seal", "(JJ)I"⟩
abbrev cX7_two : ByteArray := prog_9_method_9_code
def yX7_two : MethodName := ⟨RX7, "two", "(JJI)I"⟩
abbrev cX7_reply : ByteArray := prog_9_method_10_code
def yX7_reply : MethodName := ⟨RX7, "reply", "(IJJ)Z"⟩
abbrev cX7_current : ByteArray := prog_9_method_11_code
def yX7_current : MethodName := ⟨RX7, "current", "(D)V"⟩
abbrev cX7_warm : ByteArray := prog_9_method_12_code
def yX7_warm : MethodName := ⟨RX7, "warm", "(ID)V"⟩
abbrev cX7_bus : ByteArray := prog_9_method_13_code
def yX7_bus : MethodName := ⟨RX7, "bus", "(I)V"⟩
abbrev cX7_want : ByteArray := prog_9_method_14_code
def yX7_want : MethodName := ⟨RX7, "want", "(Z)V"⟩
abbrev cX7_set : ByteArray := prog_9_method_15_code
def yX7_set : MethodName := ⟨RX7, "set", "(D)V"⟩
abbrev cX7_isStale : ByteArray := prog_9_method_16_code
def yX7_isStale : MethodName := ⟨RX7, "isStale", "(I)Z"⟩
abbrev cX7_numberOf : ByteArray := prog_9_method_17_code
def yX7_numberOf : MethodName := ⟨RX7, "numberOf", "(III)I"⟩
abbrev cX7_isStuck : ByteArray := prog_9_method_18_code
def yX7_isStuck : MethodName := ⟨RX7, "isStuck", "(II)Z"⟩
abbrev cX7_isValid : ByteArray := prog_9_method_19_code
def yX7_isValid : MethodName := ⟨RX7, "isValid", "(II)Z"⟩
abbrev cX7_areAllValid : ByteArray := prog_9_method_20_code
def yX7_areAllValid : MethodName := ⟨RX7, "areAllValid", "()Z"⟩
abbrev cX7_sum : ByteArray := prog_9_method_21_code
def yX7_sum : MethodName := ⟨RX7, "sum", "()I"⟩
abbrev cX7_knot : ByteArray := prog_9_method_22_code
def yX7_knot : MethodName := ⟨RX7, "knot", "(I)I"⟩
abbrev cX7_share : ByteArray := prog_9_method_23_code
def yX7_share : MethodName := ⟨RX7, "share", "(I)I"⟩
abbrev cX7_told : ByteArray := prog_9_method_24_code
def yX7_told : MethodName := ⟨RX7, "told", "(I)I"⟩
abbrev cX7_sizeOf : ByteArray := prog_9_method_25_code
def yX7_sizeOf : MethodName := ⟨RX7, "sizeOf", "(J)J"⟩
abbrev cX7_countCharge : ByteArray := prog_9_method_26_code
def yX7_countCharge : MethodName := ⟨RX7, "countCharge", "()V"⟩
abbrev cX7_floor : ByteArray := prog_9_method_27_code
def yX7_floor : MethodName := ⟨RX7, "floor", "(JJ)J"⟩
abbrev cX7_hottest : ByteArray := prog_9_method_28_code
def yX7_hottest : MethodName := ⟨RX7, "hottest", "()J"⟩
abbrev cX7_coldest : ByteArray := prog_9_method_29_code
def yX7_coldest : MethodName := ⟨RX7, "coldest", "()J"⟩
abbrev cX7_full : ByteArray := prog_9_method_30_code
def yX7_full : MethodName := ⟨RX7, "full", "(J)J"⟩
abbrev cX7_least : ByteArray := prog_9_method_31_code
def yX7_least : MethodName := ⟨RX7, "least", "(JJJ)J"⟩
abbrev cX7_allow : ByteArray := prog_9_method_32_code
def yX7_allow : MethodName := ⟨RX7, "allow", "()V"⟩
abbrev cX7_isSo : ByteArray := prog_9_method_33_code
def yX7_isSo : MethodName := ⟨RX7, "isSo", "(I)Z"⟩
abbrev cX7_latch : ByteArray := prog_9_method_34_code
def yX7_latch : MethodName := ⟨RX7, "latch", "(I)V"⟩
abbrev cX7_isSerious : ByteArray := prog_9_method_35_code
def yX7_isSerious : MethodName := ⟨RX7, "isSerious", "()Z"⟩
abbrev cX7_causes : ByteArray := prog_9_method_36_code
def yX7_causes : MethodName := ⟨RX7, "causes", "()V"⟩
abbrev cX7_become : ByteArray := prog_9_method_37_code
def yX7_become : MethodName := ⟨RX7, "become", "(I)V"⟩
abbrev cX7_contactors : ByteArray := prog_9_method_38_code
def yX7_contactors : MethodName := ⟨RX7, "contactors", "()V"⟩
abbrev cX7_bleed : ByteArray := prog_9_method_39_code
def yX7_bleed : MethodName := ⟨RX7, "bleed", "()V"⟩
abbrev cX7_putBlock : ByteArray := prog_9_method_40_code
def yX7_putBlock : MethodName := ⟨RX7, "putBlock", "(IIJ)V"⟩
abbrev cX7_write : ByteArray := prog_9_method_41_code
def yX7_write : MethodName := ⟨RX7, "write", "()V"⟩
abbrev cX7_tick : ByteArray := prog_9_method_42_code
def yX7_tick : MethodName := ⟨RX7, "tick", "(I)I"⟩
abbrev cX7_reset : ByteArray := prog_9_method_43_code
def yX7_reset : MethodName := ⟨RX7, "reset", "(I)Z"⟩
abbrev cX7_cut : ByteArray := prog_9_method_44_code
def yX7_cut : MethodName := ⟨RX7, "cut", "(I)V"⟩
abbrev cX7_number : ByteArray := prog_9_method_45_code
def yX7_number : MethodName := ⟨RX7, "number", "(II)J"⟩
abbrev cX7_isRight : ByteArray := prog_9_method_46_code
def yX7_isRight : MethodName := ⟨RX7, "isRight", "(I)Z"⟩
abbrev cX7_begin : ByteArray := prog_9_method_47_code
def yX7_begin : MethodName := ⟨RX7, "begin", "()V"⟩
abbrev cX7_power : ByteArray := prog_9_method_48_code
def yX7_power : MethodName := ⟨RX7, "power", "()I"⟩
abbrev cX7_off : ByteArray := prog_9_method_49_code
def yX7_off : MethodName := ⟨RX7, "off", "()Z"⟩
abbrev cX7_noPower : ByteArray := prog_9_method_50_code
def yX7_noPower : MethodName := ⟨RX7, "noPower", "()Z"⟩
abbrev cX7_time : ByteArray := prog_9_method_51_code
def yX7_time : MethodName := ⟨RX7, "time", "()I"⟩
abbrev cX7_charge : ByteArray := prog_9_method_52_code
def yX7_charge : MethodName := ⟨RX7, "charge", "()D"⟩
abbrev cX7_percent : ByteArray := prog_9_method_53_code
def yX7_percent : MethodName := ⟨RX7, "percent", "()I"⟩
abbrev cX7_through : ByteArray := prog_9_method_54_code
def yX7_through : MethodName := ⟨RX7, "through", "()D"⟩
abbrev cX7_allowed : ByteArray := prog_9_method_55_code
def yX7_allowed : MethodName := ⟨RX7, "allowed", "(Z)D"⟩
abbrev cX7_noChip : ByteArray := prog_9_method_56_code
def yX7_noChip : MethodName := ⟨RX7, "noChip", "(I)Z"⟩
abbrev cX7_valid : ByteArray := prog_9_method_57_code
def yX7_valid : MethodName := ⟨RX7, "valid", "(II)Z"⟩
abbrev cX7_bleeding : ByteArray := prog_9_method_58_code
def yX7_bleeding : MethodName := ⟨RX7, "bleeding", "(I)I"⟩
abbrev cX7_faults : ByteArray := prog_9_method_59_code
def yX7_faults : MethodName := ⟨RX7, "faults", "()I"⟩
abbrev cX7_count : ByteArray := prog_9_method_60_code
def yX7_count : MethodName := ⟨RX7, "count", "(I)I"⟩
abbrev cX7_journal : ByteArray := prog_9_method_61_code
def yX7_journal : MethodName := ⟨RX7, "journal", "(I)I"⟩
abbrev cX7_spoil : ByteArray := prog_9_method_62_code
def yX7_spoil : MethodName := ⟨RX7, "spoil", "(II)V"⟩
def RJ9 : String := "java/lang/Math"
def TJ9 : u_T := fun k => match k with
  | _ => ("", "", "", false)
def tyJ9 : Nat → FieldType := fun k => match k with
  | _ => .int
abbrev wsJ90 : List Cond := u_ws RJ9 TJ9 0
theorem nmJ9 : ∀ a, a < 0 → ∀ b, b < 0 → a ≠ b → (TJ9 a).2.1 ≠ (TJ9 b).2.1 := by decide +kernel
theorem tyJ9_ok : ∀ k, k < 0 → parseFieldDescriptor (TJ9 k).2.2.1 = some (tyJ9 k) := by decide +kernel
abbrev cJ9_floorMod_7cf53 : ByteArray := prog_14_method_50_code
def yJ9_floorMod_7cf53 : MethodName := ⟨RJ9, "floorMod", "(II)I"⟩
abbrev cJ9_max_7cf53 : ByteArray := prog_14_method_65_code
def yJ9_max_7cf53 : MethodName := ⟨RJ9, "max", "(II)I"⟩
abbrev cJ9_max_f86c9 : ByteArray := prog_14_method_66_code
def yJ9_max_f86c9 : MethodName := ⟨RJ9, "max", "(JJ)J"⟩
abbrev cJ9_min_7cf53 : ByteArray := prog_14_method_69_code
def yJ9_min_7cf53 : MethodName := ⟨RJ9, "min", "(II)I"⟩
abbrev cJ9_min_f86c9 : ByteArray := prog_14_method_70_code
def yJ9_min_f86c9 : MethodName := ⟨RJ9, "min", "(JJ)J"⟩
def RJ0 : String := "java/lang/String"
def TJ0 : u_T := fun k => match k with
  | _ => ("", "", "", false)
def tyJ0 : Nat → FieldType := fun k => match k with
  | _ => .int
abbrev wsJ00 : List Cond := u_ws RJ0 TJ0 0
theorem nmJ0 : ∀ a, a < 0 → ∀ b, b < 0 → a ≠ b → (TJ0 a).2.1 ≠ (TJ0 b).2.1 := by decide +kernel
theorem tyJ0_ok : ∀ k, k < 0 → parseFieldDescriptor (TJ0 k).2.2.1 = some (tyJ0 k) := by decide +kernel
def RL : String := "CellKeeperLaw"
abbrev cL_cell : ByteArray := method_2_code
def yL_cell : MethodName := ⟨RL, "cell", "([II)I"⟩
abbrev cL_reply : ByteArray := method_3_code
def yL_reply : MethodName := ⟨RL, "reply", "(LCellKeeper;IJJ[J)I"⟩
abbrev cL_current : ByteArray := method_4_code
def yL_current : MethodName := ⟨RL, "current", "(LCellKeeper;D)I"⟩
abbrev cL_warm : ByteArray := method_5_code
def yL_warm : MethodName := ⟨RL, "warm", "(LCellKeeper;ID)I"⟩
abbrev cL_bus : ByteArray := method_6_code
def yL_bus : MethodName := ⟨RL, "bus", "(LCellKeeper;I)I"⟩
abbrev cL_want : ByteArray := method_7_code
def yL_want : MethodName := ⟨RL, "want", "(LCellKeeper;Z)I"⟩
abbrev cL_set : ByteArray := method_8_code
def yL_set : MethodName := ⟨RL, "set", "(LCellKeeper;D)I"⟩
abbrev cL_tick : ByteArray := method_9_code
def yL_tick : MethodName := ⟨RL, "tick", "(LCellKeeper;I[J)I"⟩
abbrev cL_reset : ByteArray := method_10_code
def yL_reset : MethodName := ⟨RL, "reset", "(LCellKeeper;I[J)I"⟩
abbrev cL_cut : ByteArray := method_11_code
def yL_cut : MethodName := ⟨RL, "cut", "(LCellKeeper;I)I"⟩
abbrev cL_time : ByteArray := method_12_code
def yL_time : MethodName := ⟨RL, "time", "(LCellKeeper;[J)I"⟩
abbrev cL_charge : ByteArray := method_13_code
def yL_charge : MethodName := ⟨RL, "charge", "(LCellKeeper;[D)I"⟩
abbrev cL_percent : ByteArray := method_14_code
def yL_percent : MethodName := ⟨RL, "percent", "(LCellKeeper;[J)I"⟩
abbrev cL_through : ByteArray := method_15_code
def yL_through : MethodName := ⟨RL, "through", "(LCellKeeper;[D)I"⟩
abbrev cL_allowed : ByteArray := method_16_code
def yL_allowed : MethodName := ⟨RL, "allowed", "(LCellKeeper;Z[D)I"⟩
abbrev cL_valid : ByteArray := method_17_code
def yL_valid : MethodName := ⟨RL, "valid", "(LCellKeeper;II[J)I"⟩
abbrev cL_bleeding : ByteArray := method_18_code
def yL_bleeding : MethodName := ⟨RL, "bleeding", "(LCellKeeper;I[J)I"⟩
abbrev cL_faults : ByteArray := method_19_code
def yL_faults : MethodName := ⟨RL, "faults", "(LCellKeeper;[J)I"⟩
abbrev cL_count : ByteArray := method_20_code
def yL_count : MethodName := ⟨RL, "count", "(LCellKeeper;I[J)I"⟩
abbrev cL_journal : ByteArray := method_21_code
def yL_journal : MethodName := ⟨RL, "journal", "(LCellKeeper;I[J)I"⟩
abbrev cL_spoil : ByteArray := method_22_code
def yL_spoil : MethodName := ⟨RL, "spoil", "(LCellKeeper;II)I"⟩
abbrev cL_law : ByteArray := code
def yL_law : MethodName := ⟨RL, "law", "([I)Z"⟩
def wsX0_init : List Cond := .code yX0_init cX0_init 2 none :: ([.methodLink RX0 1 objectInit, .instanceMethod objectInit, .code objectInit ⟨#[0xb1]⟩ 1 none, .arrayClass .int, .fieldLink RX0 9 "CellKeeper$Alarms" "counts" "[I", .fieldLink RX0 13 "CellKeeper$Alarms" "debounce" "I"] ++ wsX00)
def wsX0_beginAnew : List Cond := .code yX0_beginAnew cX0_beginAnew 2 none :: ([.fieldLink RX0 9 "CellKeeper$Alarms" "counts" "[I", .fieldLink RX0 17 "CellKeeper$Alarms" "latched" "I", .fieldLink RX0 20 "CellKeeper$Alarms" "fresh" "Z"] ++ wsX00)
def wsX0_isLatched : List Cond := .code yX0_isLatched cX0_isLatched 2 (some .boolean) :: ([.fieldLink RX0 17 "CellKeeper$Alarms" "latched" "I"] ++ wsX00)
def wsX0_latch : List Cond := .code yX0_latch cX0_latch 2 none :: ([.fieldLink RX0 17 "CellKeeper$Alarms" "latched" "I", .fieldLink RX0 20 "CellKeeper$Alarms" "fresh" "Z", .methodLink RX0 34 yX0_isLatched, .instanceMethod yX0_isLatched, .selects RX0 yX0_isLatched yX0_isLatched, .initialized RX0, .code yX0_isLatched cX0_isLatched 2 (some .boolean)] ++ wsX00)
def wsX0_watch : List Cond := .code yX0_watch cX0_watch 3 none :: ([.fieldLink RX0 9 "CellKeeper$Alarms" "counts" "[I", .methodLink RX0 24 Lib.Math.min.name, .static Lib.Math.min.name, .initialized "java/lang/Math", .code Lib.Math.min.name Lib.Math.min.code 2 (some .int), .fieldLink RX0 13 "CellKeeper$Alarms" "debounce" "I", .methodLink RX0 30 yX0_latch, .instanceMethod yX0_latch, .selects RX0 yX0_latch yX0_latch, .initialized RX0, .code yX0_latch cX0_latch 2 none, .fieldLink RX0 17 "CellKeeper$Alarms" "latched" "I", .fieldLink RX0 20 "CellKeeper$Alarms" "fresh" "Z", .methodLink RX0 34 yX0_isLatched, .instanceMethod yX0_isLatched, .selects RX0 yX0_isLatched yX0_isLatched, .code yX0_isLatched cX0_isLatched 2 (some .boolean)] ++ wsX00)
def wsX0_anySerious : List Cond := .code yX0_anySerious cX0_anySerious 1 (some .boolean) :: ([.fieldLink RX0 17 "CellKeeper$Alarms" "latched" "I"] ++ wsX00)
def wsX0_dismiss : List Cond := .code yX0_dismiss cX0_dismiss 4 (some .boolean) :: ([.fieldLink RX0 9 "CellKeeper$Alarms" "counts" "[I", .fieldLink RX0 17 "CellKeeper$Alarms" "latched" "I", .methodLink RX0 34 yX0_isLatched, .instanceMethod yX0_isLatched, .selects RX0 yX0_isLatched yX0_isLatched, .initialized RX0, .code yX0_isLatched cX0_isLatched 2 (some .boolean)] ++ wsX00)
def wsX1_init : List Cond := .code yX1_init cX1_init 2 none :: ([.methodLink RX1 1 objectInit, .instanceMethod objectInit, .code objectInit ⟨#[0xb1]⟩ 1 none, .arrayClass .byte, .fieldLink RX1 9 "CellKeeper$Blocks" "draft" "[B", .fieldLink RX1 13 "CellKeeper$Blocks" "places" "I", .fieldLink RX1 17 "CellKeeper$Blocks" "bytes" "[B"] ++ wsX10)
def wsX1_beginAnew : List Cond := .code yX1_beginAnew cX1_beginAnew 1 none :: ([.fieldLink RX1 20 "CellKeeper$Blocks" "next" "I", .fieldLink RX1 23 "CellKeeper$Blocks" "limit" "I"] ++ wsX10)
def wsX1_lay : List Cond := .code yX1_lay cX1_lay 6 none :: ([.fieldLink RX1 9 "CellKeeper$Blocks" "draft" "[B"] ++ wsX10)
def wsX2_withByte : List Cond := .code yX2_withByte cX2_withByte 5 (some .int) :: ([])
def wsX2_ofRow : List Cond := .code yX2_ofRow cX2_ofRow 6 (some .int) :: ([.methodLink RX2 13 Lib.Math.min.name, .static Lib.Math.min.name, .initialized "java/lang/Math", .code Lib.Math.min.name Lib.Math.min.code 2 (some .int), .methodLink RX2 18 Lib.Math.max.name, .static Lib.Math.max.name, .code Lib.Math.max.name Lib.Math.max.code 2 (some .int), .methodLink RX2 7 yX2_withByte, .static yX2_withByte, .initialized RX2, .code yX2_withByte cX2_withByte 5 (some .int)])
def wsJ9_floorMod_7cf53 : List Cond := .code yJ9_floorMod_7cf53 cJ9_floorMod_7cf53 3 (some .int) :: ([])
def wsX1_placeOf : List Cond := .code yX1_placeOf cX1_placeOf 2 (some .int) :: ([.fieldLink RX1 13 "CellKeeper$Blocks" "places" "I", .methodLink RX1 40 yJ9_floorMod_7cf53, .static yJ9_floorMod_7cf53, .initialized RJ9, .code yJ9_floorMod_7cf53 cJ9_floorMod_7cf53 3 (some .int)] ++ wsX10)
def wsX1_write_r1 : List Cond := [Cond.fieldLink RX1 20 "CellKeeper$Blocks" "next" "I", Cond.fieldLink RX1 9 "CellKeeper$Blocks" "draft" "[B", Cond.fieldLink RX1 23 "CellKeeper$Blocks" "limit" "I", Cond.fieldLink RX1 17 "CellKeeper$Blocks" "bytes" "[B", Cond.methodLink RX1 26 yX1_lay, Cond.instanceMethod yX1_lay, Cond.selects RX1 yX1_lay yX1_lay, Cond.initialized RX1, Cond.code yX1_lay cX1_lay 6 none, Cond.methodLink RX1 30 yX2_ofRow, Cond.static yX2_ofRow, Cond.initialized RX2, Cond.code yX2_ofRow cX2_ofRow 6 (some .int), Cond.methodLink RX2 13 Lib.Math.min.name, Cond.static Lib.Math.min.name, Cond.initialized "java/lang/Math", Cond.code Lib.Math.min.name Lib.Math.min.code 2 (some .int), Cond.methodLink RX2 18 Lib.Math.max.name, Cond.static Lib.Math.max.name, Cond.code Lib.Math.max.name Lib.Math.max.code 2 (some .int), Cond.methodLink RX2 7 yX2_withByte, Cond.static yX2_withByte, Cond.code yX2_withByte cX2_withByte 5 (some .int), Cond.methodLink RX1 36 yX1_placeOf]
def wsX1_write_r2 : List Cond := [Cond.instanceMethod yX1_placeOf, Cond.selects RX1 yX1_placeOf yX1_placeOf, Cond.code yX1_placeOf cX1_placeOf 2 (some .int), Cond.fieldLink RX1 13 "CellKeeper$Blocks" "places" "I", Cond.methodLink RX1 40 yJ9_floorMod_7cf53, Cond.static yJ9_floorMod_7cf53, Cond.initialized RJ9, Cond.code yJ9_floorMod_7cf53 cJ9_floorMod_7cf53 3 (some .int)]
def wsX1_write : List Cond := .code yX1_write cX1_write 8 (some .boolean) :: ((wsX1_write_r1 ++ wsX1_write_r2) ++ wsX10)
def wsX1_fetch : List Cond := .code yX1_fetch cX1_fetch 6 (some .long) :: ([.fieldLink RX1 17 "CellKeeper$Blocks" "bytes" "[B", .constantLong RX1 46 (255)] ++ wsX10)
def wsX1_numberAt : List Cond := .code yX1_numberAt cX1_numberAt 2 (some .int) :: ([.methodLink RX1 56 yX1_fetch, .instanceMethod yX1_fetch, .selects RX1 yX1_fetch yX1_fetch, .initialized RX1, .code yX1_fetch cX1_fetch 6 (some .long), .fieldLink RX1 17 "CellKeeper$Blocks" "bytes" "[B", .constantLong RX1 46 (255)] ++ wsX10)
def wsX1_isGood_r1 : List Cond := [Cond.constant RX1 55 (1000000000), Cond.fieldLink RX1 17 "CellKeeper$Blocks" "bytes" "[B", Cond.methodLink RX1 52 yX1_numberAt, Cond.instanceMethod yX1_numberAt, Cond.selects RX1 yX1_numberAt yX1_numberAt, Cond.initialized RX1, Cond.code yX1_numberAt cX1_numberAt 2 (some .int), Cond.methodLink RX1 56 yX1_fetch, Cond.instanceMethod yX1_fetch, Cond.selects RX1 yX1_fetch yX1_fetch, Cond.code yX1_fetch cX1_fetch 6 (some .long), Cond.constantLong RX1 46 (255), Cond.methodLink RX1 36 yX1_placeOf, Cond.instanceMethod yX1_placeOf, Cond.selects RX1 yX1_placeOf yX1_placeOf, Cond.code yX1_placeOf cX1_placeOf 2 (some .int), Cond.fieldLink RX1 13 "CellKeeper$Blocks" "places" "I", Cond.methodLink RX1 40 yJ9_floorMod_7cf53, Cond.static yJ9_floorMod_7cf53, Cond.initialized RJ9, Cond.code yJ9_floorMod_7cf53 cJ9_floorMod_7cf53 3 (some .int), Cond.methodLink RX1 30 yX2_ofRow, Cond.static yX2_ofRow, Cond.initialized RX2]
def wsX1_isGood_r2 : List Cond := [Cond.code yX2_ofRow cX2_ofRow 6 (some .int), Cond.methodLink RX2 13 Lib.Math.min.name, Cond.static Lib.Math.min.name, Cond.initialized "java/lang/Math", Cond.code Lib.Math.min.name Lib.Math.min.code 2 (some .int), Cond.methodLink RX2 18 Lib.Math.max.name, Cond.static Lib.Math.max.name, Cond.code Lib.Math.max.name Lib.Math.max.code 2 (some .int), Cond.methodLink RX2 7 yX2_withByte, Cond.static yX2_withByte, Cond.code yX2_withByte cX2_withByte 5 (some .int)]
def wsX1_isGood : List Cond := .code yX1_isGood cX1_isGood 4 (some .boolean) :: ((wsX1_isGood_r1 ++ wsX1_isGood_r2) ++ wsX10)
def wsX1_newestPlace_r1 : List Cond := [Cond.fieldLink RX1 13 "CellKeeper$Blocks" "places" "I", Cond.methodLink RX1 48 yX1_isGood, Cond.instanceMethod yX1_isGood, Cond.selects RX1 yX1_isGood yX1_isGood, Cond.initialized RX1, Cond.code yX1_isGood cX1_isGood 4 (some .boolean), Cond.constant RX1 55 (1000000000), Cond.fieldLink RX1 17 "CellKeeper$Blocks" "bytes" "[B", Cond.methodLink RX1 52 yX1_numberAt, Cond.instanceMethod yX1_numberAt, Cond.selects RX1 yX1_numberAt yX1_numberAt, Cond.code yX1_numberAt cX1_numberAt 2 (some .int), Cond.methodLink RX1 56 yX1_fetch, Cond.instanceMethod yX1_fetch, Cond.selects RX1 yX1_fetch yX1_fetch, Cond.code yX1_fetch cX1_fetch 6 (some .long), Cond.constantLong RX1 46 (255), Cond.methodLink RX1 36 yX1_placeOf, Cond.instanceMethod yX1_placeOf, Cond.selects RX1 yX1_placeOf yX1_placeOf, Cond.code yX1_placeOf cX1_placeOf 2 (some .int), Cond.methodLink RX1 40 yJ9_floorMod_7cf53, Cond.static yJ9_floorMod_7cf53, Cond.initialized RJ9]
def wsX1_newestPlace_r2 : List Cond := [Cond.code yJ9_floorMod_7cf53 cJ9_floorMod_7cf53 3 (some .int), Cond.methodLink RX1 30 yX2_ofRow, Cond.static yX2_ofRow, Cond.initialized RX2, Cond.code yX2_ofRow cX2_ofRow 6 (some .int), Cond.methodLink RX2 13 Lib.Math.min.name, Cond.static Lib.Math.min.name, Cond.initialized "java/lang/Math", Cond.code Lib.Math.min.name Lib.Math.min.code 2 (some .int), Cond.methodLink RX2 18 Lib.Math.max.name, Cond.static Lib.Math.max.name, Cond.code Lib.Math.max.name Lib.Math.max.code 2 (some .int), Cond.methodLink RX2 7 yX2_withByte, Cond.static yX2_withByte, Cond.code yX2_withByte cX2_withByte 5 (some .int)]
def wsX1_newestPlace : List Cond := .code yX1_newestPlace cX1_newestPlace 3 (some .int) :: ((wsX1_newestPlace_r1 ++ wsX1_newestPlace_r2) ++ wsX10)
def wsX1_timeAt : List Cond := .code yX1_timeAt cX1_timeAt 2 (some .int) :: ([.methodLink RX1 56 yX1_fetch, .instanceMethod yX1_fetch, .selects RX1 yX1_fetch yX1_fetch, .initialized RX1, .code yX1_fetch cX1_fetch 6 (some .long), .fieldLink RX1 17 "CellKeeper$Blocks" "bytes" "[B", .constantLong RX1 46 (255)] ++ wsX10)
def wsX1_partsAt : List Cond := .code yX1_partsAt cX1_partsAt 2 (some .long) :: ([.methodLink RX1 56 yX1_fetch, .instanceMethod yX1_fetch, .selects RX1 yX1_fetch yX1_fetch, .initialized RX1, .code yX1_fetch cX1_fetch 6 (some .long), .fieldLink RX1 17 "CellKeeper$Blocks" "bytes" "[B", .constantLong RX1 46 (255)] ++ wsX10)
def wsX1_faultsAt : List Cond := .code yX1_faultsAt cX1_faultsAt 2 (some .int) :: ([.methodLink RX1 56 yX1_fetch, .instanceMethod yX1_fetch, .selects RX1 yX1_fetch yX1_fetch, .initialized RX1, .code yX1_fetch cX1_fetch 6 (some .long), .fieldLink RX1 17 "CellKeeper$Blocks" "bytes" "[B", .constantLong RX1 46 (255)] ++ wsX10)
def wsX2_ofReply : List Cond := .code yX2_ofReply cX2_ofReply 6 (some .int) :: ([.methodLink RX2 7 yX2_withByte, .static yX2_withByte, .initialized RX2, .code yX2_withByte cX2_withByte 5 (some .int)])
def wsX3_init : List Cond := .code yX3_init cX3_init 1 none :: ([.methodLink RX3 3 objectInit, .instanceMethod objectInit, .code objectInit ⟨#[0xb1]⟩ 1 none, .arrayClass .int, .fieldLink RX3 9 "CellKeeper$Chip" "numbers" "[I", .fieldLink RX3 15 "CellKeeper$Chip" "alike" "[I", .arrayClass .double, .fieldLink RX3 18 "CellKeeper$Chip" "currents" "[D"] ++ wsX30)
def wsX3_beginAnew : List Cond := .code yX3_beginAnew cX3_beginAnew 1 none :: ([.fieldLink RX3 22 "CellKeeper$Chip" "status" "I", .fieldLink RX3 26 "CellKeeper$Chip" "used" "I", .fieldLink RX3 29 "CellKeeper$Chip" "age" "I", .constantDouble RX3 32 (4626322717216342016), .fieldLink RX3 34 "CellKeeper$Chip" "degrees" "D", .fieldLink RX3 38 "CellKeeper$Chip" "bleeds" "I"] ++ wsX30)
def wsX3_numberIn : List Cond := .code yX3_numberIn cX3_numberIn 7 (some .int) :: ([.constantLong RX3 45 (65535)])
def wsX3_take : List Cond := .code yX3_take cX3_take 10 none :: ([.fieldLink RX3 26 "CellKeeper$Chip" "used" "I", .fieldLink RX3 9 "CellKeeper$Chip" "numbers" "[I", .fieldLink RX3 15 "CellKeeper$Chip" "alike" "[I", .constantLong RX3 45 (65535), .fieldLink RX3 22 "CellKeeper$Chip" "status" "I", .fieldLink RX3 18 "CellKeeper$Chip" "currents" "[D", .fieldLink RX3 29 "CellKeeper$Chip" "age" "I", .methodLink RX3 41 yX3_numberIn, .static yX3_numberIn, .initialized RX3, .code yX3_numberIn cX3_numberIn 7 (some .int), .methodLink RX3 47 yJ9_floorMod_7cf53, .static yJ9_floorMod_7cf53, .initialized RJ9, .code yJ9_floorMod_7cf53 cJ9_floorMod_7cf53 3 (some .int)] ++ wsX30)
def wsX3_isStale : List Cond := .code yX3_isStale cX3_isStale 1 (some .boolean) :: ([.fieldLink RX3 26 "CellKeeper$Chip" "used" "I", .fieldLink RX3 29 "CellKeeper$Chip" "age" "I"] ++ wsX30)
def wsX3_currentsSwing : List Cond := .code yX3_currentsSwing cX3_currentsSwing 10 (some .boolean) :: ([.fieldLink RX3 18 "CellKeeper$Chip" "currents" "[D", .constantDouble RX3 64 (4620693217682128896)] ++ wsX30)
def wsX3_isStuck : List Cond := .code yX3_isStuck cX3_isStuck 2 (some .boolean) :: ([.fieldLink RX3 15 "CellKeeper$Chip" "alike" "[I", .methodLink RX3 61 yX3_currentsSwing, .instanceMethod yX3_currentsSwing, .selects RX3 yX3_currentsSwing yX3_currentsSwing, .initialized RX3, .code yX3_currentsSwing cX3_currentsSwing 10 (some .boolean), .fieldLink RX3 18 "CellKeeper$Chip" "currents" "[D", .constantDouble RX3 64 (4620693217682128896)] ++ wsX30)
def wsX3_isValid : List Cond := .code yX3_isValid cX3_isValid 2 (some .boolean) :: ([.fieldLink RX3 9 "CellKeeper$Chip" "numbers" "[I", .fieldLink RX3 22 "CellKeeper$Chip" "status" "I", .methodLink RX3 53 yX3_isStale, .instanceMethod yX3_isStale, .selects RX3 yX3_isStale yX3_isStale, .initialized RX3, .code yX3_isStale cX3_isStale 1 (some .boolean), .fieldLink RX3 26 "CellKeeper$Chip" "used" "I", .fieldLink RX3 29 "CellKeeper$Chip" "age" "I", .methodLink RX3 57 yX3_isStuck, .instanceMethod yX3_isStuck, .selects RX3 yX3_isStuck yX3_isStuck, .code yX3_isStuck cX3_isStuck 2 (some .boolean), .fieldLink RX3 15 "CellKeeper$Chip" "alike" "[I", .methodLink RX3 61 yX3_currentsSwing, .instanceMethod yX3_currentsSwing, .selects RX3 yX3_currentsSwing yX3_currentsSwing, .code yX3_currentsSwing cX3_currentsSwing 10 (some .boolean), .fieldLink RX3 18 "CellKeeper$Chip" "currents" "[D", .constantDouble RX3 64 (4620693217682128896)] ++ wsX30)
def wsX3_cellsToBleed : List Cond := .code yX3_cellsToBleed cX3_cellsToBleed 7 (some .int) :: ([.fieldLink RX3 9 "CellKeeper$Chip" "numbers" "[I", .methodLink RX3 66 yX3_isValid, .instanceMethod yX3_isValid, .selects RX3 yX3_isValid yX3_isValid, .initialized RX3, .code yX3_isValid cX3_isValid 2 (some .boolean), .fieldLink RX3 22 "CellKeeper$Chip" "status" "I", .methodLink RX3 53 yX3_isStale, .instanceMethod yX3_isStale, .selects RX3 yX3_isStale yX3_isStale, .code yX3_isStale cX3_isStale 1 (some .boolean), .fieldLink RX3 26 "CellKeeper$Chip" "used" "I", .fieldLink RX3 29 "CellKeeper$Chip" "age" "I", .methodLink RX3 57 yX3_isStuck, .instanceMethod yX3_isStuck, .selects RX3 yX3_isStuck yX3_isStuck, .code yX3_isStuck cX3_isStuck 2 (some .boolean), .fieldLink RX3 15 "CellKeeper$Chip" "alike" "[I", .methodLink RX3 61 yX3_currentsSwing, .instanceMethod yX3_currentsSwing, .selects RX3 yX3_currentsSwing yX3_currentsSwing, .code yX3_currentsSwing cX3_currentsSwing 10 (some .boolean), .fieldLink RX3 18 "CellKeeper$Chip" "currents" "[D", .constantDouble RX3 64 (4620693217682128896)] ++ wsX30)
def wsX4_init : List Cond := .code yX4_init cX4_init 1 none :: ([.methodLink RX4 1 objectInit, .instanceMethod objectInit, .code objectInit ⟨#[0xb1]⟩ 1 none])
def wsX4_beginAnew : List Cond := .code yX4_beginAnew cX4_beginAnew 1 none :: ([.fieldLink RX4 9 "CellKeeper$Contactors" "state" "I", .fieldLink RX4 13 "CellKeeper$Contactors" "ticks" "I"] ++ wsX40)
def wsX4_opened : List Cond := .code yX4_opened cX4_opened 4 (some .int) :: ([.fieldLink RX4 13 "CellKeeper$Contactors" "ticks" "I", .fieldLink RX4 34 "CellKeeper$Survey" "sum" "I", .methodLink RX4 37 yX0_latch, .instanceMethod yX0_latch, .selects RX0 yX0_latch yX0_latch, .initialized RX0, .code yX0_latch cX0_latch 2 none, .fieldLink RX0 17 "CellKeeper$Alarms" "latched" "I", .fieldLink RX0 20 "CellKeeper$Alarms" "fresh" "Z", .methodLink RX0 34 yX0_isLatched, .instanceMethod yX0_isLatched, .selects RX0 yX0_isLatched yX0_isLatched, .code yX0_isLatched cX0_isLatched 2 (some .boolean)] ++ wsX40 ++ wsX50 ++ wsX00)
def wsX5_allValid : List Cond := .code yX5_allValid cX5_allValid 1 (some .boolean) :: ([.fieldLink RX5 9 "CellKeeper$Survey" "staleChip" "Z", .fieldLink RX5 15 "CellKeeper$Survey" "invalidCell" "Z"] ++ wsX50)
def wsX4_precharged : List Cond := .code yX4_precharged cX4_precharged 4 (some .int) :: ([.fieldLink RX4 34 "CellKeeper$Survey" "sum" "I", .fieldLink RX4 13 "CellKeeper$Contactors" "ticks" "I", .methodLink RX4 29 yX5_allValid, .instanceMethod yX5_allValid, .selects RX5 yX5_allValid yX5_allValid, .initialized RX5, .code yX5_allValid cX5_allValid 1 (some .boolean), .fieldLink RX5 9 "CellKeeper$Survey" "staleChip" "Z", .fieldLink RX5 15 "CellKeeper$Survey" "invalidCell" "Z", .methodLink RX4 37 yX0_latch, .instanceMethod yX0_latch, .selects RX0 yX0_latch yX0_latch, .initialized RX0, .code yX0_latch cX0_latch 2 none, .fieldLink RX0 17 "CellKeeper$Alarms" "latched" "I", .fieldLink RX0 20 "CellKeeper$Alarms" "fresh" "Z", .methodLink RX0 34 yX0_isLatched, .instanceMethod yX0_isLatched, .selects RX0 yX0_isLatched yX0_isLatched, .code yX0_isLatched cX0_isLatched 2 (some .boolean)] ++ wsX50 ++ wsX40 ++ wsX00)
def wsX4_step_r1 : List Cond := [Cond.fieldLink RX4 13 "CellKeeper$Contactors" "ticks" "I", Cond.fieldLink RX4 9 "CellKeeper$Contactors" "state" "I", Cond.methodLink RX4 16 yX0_anySerious, Cond.instanceMethod yX0_anySerious, Cond.selects RX0 yX0_anySerious yX0_anySerious, Cond.initialized RX0, Cond.code yX0_anySerious cX0_anySerious 1 (some .boolean), Cond.fieldLink RX0 17 "CellKeeper$Alarms" "latched" "I", Cond.methodLink RX4 22 yX4_opened, Cond.instanceMethod yX4_opened, Cond.selects RX4 yX4_opened yX4_opened, Cond.initialized RX4, Cond.code yX4_opened cX4_opened 4 (some .int), Cond.fieldLink RX4 34 "CellKeeper$Survey" "sum" "I", Cond.methodLink RX4 37 yX0_latch, Cond.instanceMethod yX0_latch, Cond.selects RX0 yX0_latch yX0_latch, Cond.code yX0_latch cX0_latch 2 none, Cond.fieldLink RX0 20 "CellKeeper$Alarms" "fresh" "Z", Cond.methodLink RX0 34 yX0_isLatched, Cond.instanceMethod yX0_isLatched, Cond.selects RX0 yX0_isLatched yX0_isLatched, Cond.code yX0_isLatched cX0_isLatched 2 (some .boolean), Cond.methodLink RX4 26 yX4_precharged]
def wsX4_step_r2 : List Cond := [Cond.instanceMethod yX4_precharged, Cond.selects RX4 yX4_precharged yX4_precharged, Cond.code yX4_precharged cX4_precharged 4 (some .int), Cond.methodLink RX4 29 yX5_allValid, Cond.instanceMethod yX5_allValid, Cond.selects RX5 yX5_allValid yX5_allValid, Cond.initialized RX5, Cond.code yX5_allValid cX5_allValid 1 (some .boolean), Cond.fieldLink RX5 9 "CellKeeper$Survey" "staleChip" "Z", Cond.fieldLink RX5 15 "CellKeeper$Survey" "invalidCell" "Z"]
def wsX4_step : List Cond := .code yX4_step cX4_step 7 none :: ((wsX4_step_r1 ++ wsX4_step_r2) ++ wsX40 ++ wsX00 ++ wsX50)
def wsX5_init : List Cond := .code yX5_init cX5_init 1 none :: ([.methodLink RX5 3 objectInit, .instanceMethod objectInit, .code objectInit ⟨#[0xb1]⟩ 1 none])
def wsX5_lookAtCells_r1 : List Cond := [Cond.fieldLink RX5 59 "CellKeeper$Chip" "numbers" "[I", Cond.fieldLink RX5 18 "CellKeeper$Survey" "sum" "I", Cond.fieldLink RX5 25 "CellKeeper$Survey" "least" "I", Cond.methodLink RX5 63 Lib.Math.min.name, Cond.static Lib.Math.min.name, Cond.initialized "java/lang/Math", Cond.code Lib.Math.min.name Lib.Math.min.code 2 (some .int), Cond.fieldLink RX5 28 "CellKeeper$Survey" "greatest" "I", Cond.methodLink RX5 69 Lib.Math.max.name, Cond.static Lib.Math.max.name, Cond.code Lib.Math.max.name Lib.Math.max.code 2 (some .int), Cond.fieldLink RX5 15 "CellKeeper$Survey" "invalidCell" "Z", Cond.methodLink RX5 55 yX3_isValid, Cond.instanceMethod yX3_isValid, Cond.selects RX3 yX3_isValid yX3_isValid, Cond.initialized RX3, Cond.code yX3_isValid cX3_isValid 2 (some .boolean), Cond.fieldLink RX3 9 "CellKeeper$Chip" "numbers" "[I", Cond.fieldLink RX3 22 "CellKeeper$Chip" "status" "I", Cond.methodLink RX3 53 yX3_isStale, Cond.instanceMethod yX3_isStale, Cond.selects RX3 yX3_isStale yX3_isStale, Cond.code yX3_isStale cX3_isStale 1 (some .boolean), Cond.fieldLink RX3 26 "CellKeeper$Chip" "used" "I"]
def wsX5_lookAtCells_r2 : List Cond := [Cond.fieldLink RX3 29 "CellKeeper$Chip" "age" "I", Cond.methodLink RX3 57 yX3_isStuck, Cond.instanceMethod yX3_isStuck, Cond.selects RX3 yX3_isStuck yX3_isStuck, Cond.code yX3_isStuck cX3_isStuck 2 (some .boolean), Cond.fieldLink RX3 15 "CellKeeper$Chip" "alike" "[I", Cond.methodLink RX3 61 yX3_currentsSwing, Cond.instanceMethod yX3_currentsSwing, Cond.selects RX3 yX3_currentsSwing yX3_currentsSwing, Cond.code yX3_currentsSwing cX3_currentsSwing 10 (some .boolean), Cond.fieldLink RX3 18 "CellKeeper$Chip" "currents" "[D", Cond.constantDouble RX3 64 (4620693217682128896)]
def wsX5_lookAtCells : List Cond := .code yX5_lookAtCells cX5_lookAtCells 4 none :: ((wsX5_lookAtCells_r1 ++ wsX5_lookAtCells_r2) ++ wsX30 ++ wsX50)
def wsX5_look_r1 : List Cond := [Cond.fieldLink RX5 9 "CellKeeper$Survey" "staleChip" "Z", Cond.fieldLink RX5 15 "CellKeeper$Survey" "invalidCell" "Z", Cond.fieldLink RX5 18 "CellKeeper$Survey" "sum" "I", Cond.constant RX5 24 (2147483647), Cond.fieldLink RX5 25 "CellKeeper$Survey" "least" "I", Cond.fieldLink RX5 28 "CellKeeper$Survey" "greatest" "I", Cond.constantDouble RX5 31 (13860109328209412096), Cond.fieldLink RX5 33 "CellKeeper$Survey" "hottest" "D", Cond.constantDouble RX5 37 (4641240890982006784), Cond.fieldLink RX5 39 "CellKeeper$Survey" "coldest" "D", Cond.fieldLink RX5 42 "CellKeeper$Chip" "degrees" "D", Cond.methodLink RX5 47 yX3_isStale, Cond.instanceMethod yX3_isStale, Cond.selects RX3 yX3_isStale yX3_isStale, Cond.initialized RX3, Cond.code yX3_isStale cX3_isStale 1 (some .boolean), Cond.fieldLink RX3 26 "CellKeeper$Chip" "used" "I", Cond.fieldLink RX3 29 "CellKeeper$Chip" "age" "I", Cond.methodLink RX5 51 yX5_lookAtCells, Cond.instanceMethod yX5_lookAtCells, Cond.selects RX5 yX5_lookAtCells yX5_lookAtCells, Cond.initialized RX5, Cond.code yX5_lookAtCells cX5_lookAtCells 4 none, Cond.fieldLink RX5 59 "CellKeeper$Chip" "numbers" "[I"]
def wsX5_look_r2 : List Cond := [Cond.methodLink RX5 63 Lib.Math.min.name, Cond.static Lib.Math.min.name, Cond.initialized "java/lang/Math", Cond.code Lib.Math.min.name Lib.Math.min.code 2 (some .int), Cond.methodLink RX5 69 Lib.Math.max.name, Cond.static Lib.Math.max.name, Cond.code Lib.Math.max.name Lib.Math.max.code 2 (some .int), Cond.methodLink RX5 55 yX3_isValid, Cond.instanceMethod yX3_isValid, Cond.selects RX3 yX3_isValid yX3_isValid, Cond.code yX3_isValid cX3_isValid 2 (some .boolean), Cond.fieldLink RX3 9 "CellKeeper$Chip" "numbers" "[I", Cond.fieldLink RX3 22 "CellKeeper$Chip" "status" "I", Cond.methodLink RX3 53 yX3_isStale, Cond.methodLink RX3 57 yX3_isStuck, Cond.instanceMethod yX3_isStuck, Cond.selects RX3 yX3_isStuck yX3_isStuck, Cond.code yX3_isStuck cX3_isStuck 2 (some .boolean), Cond.fieldLink RX3 15 "CellKeeper$Chip" "alike" "[I", Cond.methodLink RX3 61 yX3_currentsSwing, Cond.instanceMethod yX3_currentsSwing, Cond.selects RX3 yX3_currentsSwing yX3_currentsSwing, Cond.code yX3_currentsSwing cX3_currentsSwing 10 (some .boolean), Cond.fieldLink RX3 18 "CellKeeper$Chip" "currents" "[D"]
def wsX5_look_r3 : List Cond := [Cond.constantDouble RX3 64 (4620693217682128896)]
def wsX5_look : List Cond := .code yX5_look cX5_look 6 none :: ((wsX5_look_r1 ++ (wsX5_look_r2 ++ wsX5_look_r3)) ++ wsX50 ++ wsX30)
def wsX6_nearest : List Cond := .code yX6_nearest cX6_nearest 3 (some .int) :: ([.methodLink RX6 185 Lib.Math.min.name, .static Lib.Math.min.name, .initialized "java/lang/Math", .code Lib.Math.min.name Lib.Math.min.code 2 (some .int), .methodLink RX6 191 Lib.Math.max.name, .static Lib.Math.max.name, .code Lib.Math.max.name Lib.Math.max.code 2 (some .int)])
def wsX6_beginAnew_r1 : List Cond := [Cond.fieldLink RX6 104 "CellKeeper" "dark" "Z", Cond.fieldLink RX6 138 "CellKeeper" "time" "I", Cond.fieldLink RX6 101 "CellKeeper" "charge" "D", Cond.fieldLink RX6 161 "CellKeeper" "through" "D", Cond.fieldLink RX6 215 "CellKeeper" "rest" "I", Cond.fieldLink RX6 74 "CellKeeper" "amperes" "D", Cond.fieldLink RX6 94 "CellKeeper" "bus" "I", Cond.fieldLink RX6 97 "CellKeeper" "wanted" "Z", Cond.fieldLink RX6 167 "CellKeeper" "mayGive" "D", Cond.fieldLink RX6 164 "CellKeeper" "mayTake" "D", Cond.fieldLink RX6 15 "CellKeeper" "chain" "[LCellKeeper$Chip;", Cond.fieldLink RX6 39 "CellKeeper" "alarms" "LCellKeeper$Alarms;", Cond.fieldLink RX6 46 "CellKeeper" "contactors" "LCellKeeper$Contactors;", Cond.fieldLink RX6 53 "CellKeeper" "blocks" "LCellKeeper$Blocks;", Cond.methodLink RX6 218 yX3_beginAnew, Cond.instanceMethod yX3_beginAnew, Cond.selects RX3 yX3_beginAnew yX3_beginAnew, Cond.initialized RX3, Cond.code yX3_beginAnew cX3_beginAnew 1 none, Cond.fieldLink RX3 22 "CellKeeper$Chip" "status" "I", Cond.fieldLink RX3 26 "CellKeeper$Chip" "used" "I", Cond.fieldLink RX3 29 "CellKeeper$Chip" "age" "I", Cond.constantDouble RX3 32 (4626322717216342016), Cond.fieldLink RX3 34 "CellKeeper$Chip" "degrees" "D"]
def wsX6_beginAnew_r2 : List Cond := [Cond.fieldLink RX3 38 "CellKeeper$Chip" "bleeds" "I", Cond.methodLink RX6 219 yX0_beginAnew, Cond.instanceMethod yX0_beginAnew, Cond.selects RX0 yX0_beginAnew yX0_beginAnew, Cond.initialized RX0, Cond.code yX0_beginAnew cX0_beginAnew 2 none, Cond.fieldLink RX0 9 "CellKeeper$Alarms" "counts" "[I", Cond.fieldLink RX0 17 "CellKeeper$Alarms" "latched" "I", Cond.fieldLink RX0 20 "CellKeeper$Alarms" "fresh" "Z", Cond.methodLink RX6 220 yX4_beginAnew, Cond.instanceMethod yX4_beginAnew, Cond.selects RX4 yX4_beginAnew yX4_beginAnew, Cond.initialized RX4, Cond.code yX4_beginAnew cX4_beginAnew 1 none, Cond.fieldLink RX4 9 "CellKeeper$Contactors" "state" "I", Cond.fieldLink RX4 13 "CellKeeper$Contactors" "ticks" "I", Cond.methodLink RX6 221 yX1_beginAnew, Cond.instanceMethod yX1_beginAnew, Cond.selects RX1 yX1_beginAnew yX1_beginAnew, Cond.initialized RX1, Cond.code yX1_beginAnew cX1_beginAnew 1 none, Cond.fieldLink RX1 20 "CellKeeper$Blocks" "next" "I", Cond.fieldLink RX1 23 "CellKeeper$Blocks" "limit" "I"]
def wsX6_beginAnew : List Cond := .code yX6_beginAnew cX6_beginAnew 5 none :: ((wsX6_beginAnew_r1 ++ wsX6_beginAnew_r2) ++ wsX60 ++ wsX30 ++ wsX00 ++ wsX40 ++ wsX10)
def wsX6_init_r1 : List Cond := [Cond.methodLink RX6 1 objectInit, Cond.instanceMethod objectInit, Cond.code objectInit ⟨#[0xb1]⟩ 1 none, Cond.classLink RX6 13 RX3, Cond.fieldLink RX6 15 "CellKeeper" "chain" "[LCellKeeper$Chip;", Cond.instantiable RX3 8, Cond.initialized RX3, Cond.fieldLink RX6 20 "CellKeeper" "capacity" "I", Cond.fieldLink RX6 24 "CellKeeper" "every" "I", Cond.classLink RX6 27 RX5, Cond.instantiable RX5 7, Cond.initialized RX5, Cond.fieldLink RX6 30 "CellKeeper" "survey" "LCellKeeper$Survey;", Cond.classLink RX6 34 RX0, Cond.instantiable RX0 4, Cond.initialized RX0, Cond.fieldLink RX6 39 "CellKeeper" "alarms" "LCellKeeper$Alarms;", Cond.classLink RX6 43 RX4, Cond.instantiable RX4 2, Cond.initialized RX4, Cond.fieldLink RX6 46 "CellKeeper" "contactors" "LCellKeeper$Contactors;", Cond.classLink RX6 50 RX1, Cond.instantiable RX1 5, Cond.initialized RX1]
def wsX6_init_r2 : List Cond := [Cond.fieldLink RX6 53 "CellKeeper" "blocks" "LCellKeeper$Blocks;", Cond.methodLink RX6 7 yX6_nearest, Cond.static yX6_nearest, Cond.initialized RX6, Cond.code yX6_nearest cX6_nearest 3 (some .int), Cond.methodLink RX6 185 Lib.Math.min.name, Cond.static Lib.Math.min.name, Cond.initialized "java/lang/Math", Cond.code Lib.Math.min.name Lib.Math.min.code 2 (some .int), Cond.methodLink RX6 191 Lib.Math.max.name, Cond.static Lib.Math.max.name, Cond.code Lib.Math.max.name Lib.Math.max.code 2 (some .int), Cond.instanceMethod yX3_init, Cond.code yX3_init cX3_init 1 none, Cond.methodLink RX3 3 objectInit, Cond.arrayClass .int, Cond.fieldLink RX3 9 "CellKeeper$Chip" "numbers" "[I", Cond.fieldLink RX3 15 "CellKeeper$Chip" "alike" "[I", Cond.arrayClass .double, Cond.fieldLink RX3 18 "CellKeeper$Chip" "currents" "[D", Cond.instanceMethod yX5_init, Cond.code yX5_init cX5_init 1 none, Cond.methodLink RX5 3 objectInit, Cond.methodLink RX6 36 yX0_init]
def wsX6_init_r3 : List Cond := [Cond.instanceMethod yX0_init, Cond.code yX0_init cX0_init 2 none, Cond.methodLink RX0 1 objectInit, Cond.fieldLink RX0 9 "CellKeeper$Alarms" "counts" "[I", Cond.fieldLink RX0 13 "CellKeeper$Alarms" "debounce" "I", Cond.instanceMethod yX4_init, Cond.code yX4_init cX4_init 1 none, Cond.methodLink RX4 1 objectInit, Cond.methodLink RX6 52 yX1_init, Cond.instanceMethod yX1_init, Cond.code yX1_init cX1_init 2 none, Cond.methodLink RX1 1 objectInit, Cond.arrayClass .byte, Cond.fieldLink RX1 9 "CellKeeper$Blocks" "draft" "[B", Cond.fieldLink RX1 13 "CellKeeper$Blocks" "places" "I", Cond.fieldLink RX1 17 "CellKeeper$Blocks" "bytes" "[B", Cond.methodLink RX6 57 yX6_beginAnew, Cond.instanceMethod yX6_beginAnew, Cond.selects RX6 yX6_beginAnew yX6_beginAnew, Cond.code yX6_beginAnew cX6_beginAnew 5 none, Cond.fieldLink RX6 104 "CellKeeper" "dark" "Z", Cond.fieldLink RX6 138 "CellKeeper" "time" "I", Cond.fieldLink RX6 101 "CellKeeper" "charge" "D", Cond.fieldLink RX6 161 "CellKeeper" "through" "D"]
def wsX6_init_r4 : List Cond := [Cond.fieldLink RX6 215 "CellKeeper" "rest" "I", Cond.fieldLink RX6 74 "CellKeeper" "amperes" "D", Cond.fieldLink RX6 94 "CellKeeper" "bus" "I", Cond.fieldLink RX6 97 "CellKeeper" "wanted" "Z", Cond.fieldLink RX6 167 "CellKeeper" "mayGive" "D", Cond.fieldLink RX6 164 "CellKeeper" "mayTake" "D", Cond.methodLink RX6 218 yX3_beginAnew, Cond.instanceMethod yX3_beginAnew, Cond.selects RX3 yX3_beginAnew yX3_beginAnew, Cond.code yX3_beginAnew cX3_beginAnew 1 none, Cond.fieldLink RX3 22 "CellKeeper$Chip" "status" "I", Cond.fieldLink RX3 26 "CellKeeper$Chip" "used" "I", Cond.fieldLink RX3 29 "CellKeeper$Chip" "age" "I", Cond.constantDouble RX3 32 (4626322717216342016), Cond.fieldLink RX3 34 "CellKeeper$Chip" "degrees" "D", Cond.fieldLink RX3 38 "CellKeeper$Chip" "bleeds" "I", Cond.methodLink RX6 219 yX0_beginAnew, Cond.instanceMethod yX0_beginAnew, Cond.selects RX0 yX0_beginAnew yX0_beginAnew, Cond.code yX0_beginAnew cX0_beginAnew 2 none, Cond.fieldLink RX0 17 "CellKeeper$Alarms" "latched" "I", Cond.fieldLink RX0 20 "CellKeeper$Alarms" "fresh" "Z", Cond.methodLink RX6 220 yX4_beginAnew, Cond.instanceMethod yX4_beginAnew]
def wsX6_init_r5 : List Cond := [Cond.selects RX4 yX4_beginAnew yX4_beginAnew, Cond.code yX4_beginAnew cX4_beginAnew 1 none, Cond.fieldLink RX4 9 "CellKeeper$Contactors" "state" "I", Cond.fieldLink RX4 13 "CellKeeper$Contactors" "ticks" "I", Cond.methodLink RX6 221 yX1_beginAnew, Cond.instanceMethod yX1_beginAnew, Cond.selects RX1 yX1_beginAnew yX1_beginAnew, Cond.code yX1_beginAnew cX1_beginAnew 1 none, Cond.fieldLink RX1 20 "CellKeeper$Blocks" "next" "I", Cond.fieldLink RX1 23 "CellKeeper$Blocks" "limit" "I"]
def wsX6_init : List Cond := .code yX6_init cX6_init 7 none :: ((wsX6_init_r1 ++ (wsX6_init_r2 ++ (wsX6_init_r3 ++ (wsX6_init_r4 ++ wsX6_init_r5)))) ++ wsX60 ++ wsX30 ++ wsX50 ++ wsX00 ++ wsX40 ++ wsX10)
def wsX6_chips : List Cond := .code yX6_chips cX6_chips 1 (some .int) :: ([.fieldLink RX6 15 "CellKeeper" "chain" "[LCellKeeper$Chip;"] ++ wsX60)
def wsX6_seal : List Cond := .code yX6_seal cX6_seal 5 (some .int) :: ([.methodLink RX6 60 yX2_ofReply, .static yX2_ofReply, .initialized RX2, .code yX2_ofReply cX2_ofReply 6 (some .int), .methodLink RX2 7 yX2_withByte, .static yX2_withByte, .code yX2_withByte cX2_withByte 5 (some .int)])
def wsX6_needIndex : List Cond := .code yX6_needIndex cX6_needIndex 2 none :: ([.classLink RX6 201 "java/lang/IndexOutOfBoundsException", .initialized "java/lang/IndexOutOfBoundsException"] ++ (vx_atS RX6 205 "java/lang/IndexOutOfBoundsException" ["java/lang/RuntimeException", "java/lang/Exception"]).filter goodWord)
def wsX6_needChip : List Cond := .code yX6_needChip cX6_needChip 2 none :: ([.fieldLink RX6 15 "CellKeeper" "chain" "[LCellKeeper$Chip;", .methodLink RX6 113 yX6_needIndex, .static yX6_needIndex, .initialized RX6, .code yX6_needIndex cX6_needIndex 2 none, .classLink RX6 201 "java/lang/IndexOutOfBoundsException", .initialized "java/lang/IndexOutOfBoundsException"] ++ wsX60 ++ (vx_atS RX6 205 "java/lang/IndexOutOfBoundsException" ["java/lang/RuntimeException", "java/lang/Exception"]).filter goodWord)
def wsX6_needPower : List Cond := .code yX6_needPower cX6_needPower 1 none :: ([.classLink RX6 194 "java/lang/IllegalStateException", .initialized "java/lang/IllegalStateException", .fieldLink RX6 104 "CellKeeper" "dark" "Z"] ++ wsX60 ++ (vx_atS RX6 198 "java/lang/IllegalStateException" ["java/lang/RuntimeException", "java/lang/Exception"]).filter goodWord)
def wsX6_reply_r1 : List Cond := [Cond.constantLong RX6 72 (65535), Cond.fieldLink RX6 15 "CellKeeper" "chain" "[LCellKeeper$Chip;", Cond.fieldLink RX6 74 "CellKeeper" "amperes" "D", Cond.methodLink RX6 66 yX6_needChip, Cond.instanceMethod yX6_needChip, Cond.selects RX6 yX6_needChip yX6_needChip, Cond.initialized RX6, Cond.code yX6_needChip cX6_needChip 2 none, Cond.methodLink RX6 113 yX6_needIndex, Cond.static yX6_needIndex, Cond.code yX6_needIndex cX6_needIndex 2 none, Cond.classLink RX6 201 "java/lang/IndexOutOfBoundsException", Cond.initialized "java/lang/IndexOutOfBoundsException", Cond.methodLink RX6 69 yX6_needPower, Cond.instanceMethod yX6_needPower, Cond.selects RX6 yX6_needPower yX6_needPower, Cond.code yX6_needPower cX6_needPower 1 none, Cond.classLink RX6 194 "java/lang/IllegalStateException", Cond.initialized "java/lang/IllegalStateException", Cond.fieldLink RX6 104 "CellKeeper" "dark" "Z", Cond.methodLink RX6 60 yX2_ofReply, Cond.static yX2_ofReply, Cond.initialized RX2, Cond.code yX2_ofReply cX2_ofReply 6 (some .int)]
def wsX6_reply_r2 : List Cond := [Cond.methodLink RX2 7 yX2_withByte, Cond.static yX2_withByte, Cond.code yX2_withByte cX2_withByte 5 (some .int), Cond.methodLink RX6 78 yX3_take, Cond.instanceMethod yX3_take, Cond.selects RX3 yX3_take yX3_take, Cond.initialized RX3, Cond.code yX3_take cX3_take 10 none, Cond.fieldLink RX3 26 "CellKeeper$Chip" "used" "I", Cond.fieldLink RX3 9 "CellKeeper$Chip" "numbers" "[I", Cond.fieldLink RX3 15 "CellKeeper$Chip" "alike" "[I", Cond.constantLong RX3 45 (65535), Cond.fieldLink RX3 22 "CellKeeper$Chip" "status" "I", Cond.fieldLink RX3 18 "CellKeeper$Chip" "currents" "[D", Cond.fieldLink RX3 29 "CellKeeper$Chip" "age" "I", Cond.methodLink RX3 41 yX3_numberIn, Cond.static yX3_numberIn, Cond.code yX3_numberIn cX3_numberIn 7 (some .int), Cond.methodLink RX3 47 yJ9_floorMod_7cf53, Cond.static yJ9_floorMod_7cf53, Cond.initialized RJ9, Cond.code yJ9_floorMod_7cf53 cJ9_floorMod_7cf53 3 (some .int)]
def wsX6_reply : List Cond := .code yX6_reply cX6_reply 6 (some .boolean) :: ((wsX6_reply_r1 ++ wsX6_reply_r2) ++ wsX60 ++ wsX30 ++ (vx_atS RX6 205 "java/lang/IndexOutOfBoundsException" ["java/lang/RuntimeException", "java/lang/Exception"]).filter goodWord ++ (vx_atS RX6 198 "java/lang/IllegalStateException" ["java/lang/RuntimeException", "java/lang/Exception"]).filter goodWord)
def wsX6_needAmount : List Cond := .code yX6_needAmount cX6_needAmount 5 none :: ([.classLink RX6 206 "java/lang/IllegalArgumentException", .initialized "java/lang/IllegalArgumentException", .constantDouble RX6 211 (4620693217682128896)] ++ (vx_atS RX6 210 "java/lang/IllegalArgumentException" ["java/lang/RuntimeException", "java/lang/Exception"]).filter goodWord)
def wsX6_current : List Cond := .code yX6_current cX6_current 3 none :: ([.fieldLink RX6 74 "CellKeeper" "amperes" "D", .methodLink RX6 82 yX6_needAmount, .static yX6_needAmount, .initialized RX6, .code yX6_needAmount cX6_needAmount 5 none, .classLink RX6 206 "java/lang/IllegalArgumentException", .initialized "java/lang/IllegalArgumentException", .constantDouble RX6 211 (4620693217682128896), .methodLink RX6 69 yX6_needPower, .instanceMethod yX6_needPower, .selects RX6 yX6_needPower yX6_needPower, .code yX6_needPower cX6_needPower 1 none, .classLink RX6 194 "java/lang/IllegalStateException", .initialized "java/lang/IllegalStateException", .fieldLink RX6 104 "CellKeeper" "dark" "Z"] ++ wsX60 ++ (vx_atS RX6 210 "java/lang/IllegalArgumentException" ["java/lang/RuntimeException", "java/lang/Exception"]).filter goodWord ++ (vx_atS RX6 198 "java/lang/IllegalStateException" ["java/lang/RuntimeException", "java/lang/Exception"]).filter goodWord)
def wsX6_warm_r1 : List Cond := [Cond.fieldLink RX6 15 "CellKeeper" "chain" "[LCellKeeper$Chip;", Cond.fieldLink RX6 86 "CellKeeper$Chip" "degrees" "D", Cond.methodLink RX6 66 yX6_needChip, Cond.instanceMethod yX6_needChip, Cond.selects RX6 yX6_needChip yX6_needChip, Cond.initialized RX6, Cond.code yX6_needChip cX6_needChip 2 none, Cond.methodLink RX6 113 yX6_needIndex, Cond.static yX6_needIndex, Cond.code yX6_needIndex cX6_needIndex 2 none, Cond.classLink RX6 201 "java/lang/IndexOutOfBoundsException", Cond.initialized "java/lang/IndexOutOfBoundsException", Cond.methodLink RX6 82 yX6_needAmount, Cond.static yX6_needAmount, Cond.code yX6_needAmount cX6_needAmount 5 none, Cond.classLink RX6 206 "java/lang/IllegalArgumentException", Cond.initialized "java/lang/IllegalArgumentException", Cond.constantDouble RX6 211 (4620693217682128896), Cond.methodLink RX6 69 yX6_needPower, Cond.instanceMethod yX6_needPower, Cond.selects RX6 yX6_needPower yX6_needPower, Cond.code yX6_needPower cX6_needPower 1 none, Cond.classLink RX6 194 "java/lang/IllegalStateException", Cond.initialized "java/lang/IllegalStateException"]
def wsX6_warm_r2 : List Cond := [Cond.fieldLink RX6 104 "CellKeeper" "dark" "Z"]
def wsX6_warm : List Cond := .code yX6_warm cX6_warm 4 none :: ((wsX6_warm_r1 ++ wsX6_warm_r2) ++ wsX60 ++ wsX30 ++ (vx_atS RX6 205 "java/lang/IndexOutOfBoundsException" ["java/lang/RuntimeException", "java/lang/Exception"]).filter goodWord ++ (vx_atS RX6 210 "java/lang/IllegalArgumentException" ["java/lang/RuntimeException", "java/lang/Exception"]).filter goodWord ++ (vx_atS RX6 198 "java/lang/IllegalStateException" ["java/lang/RuntimeException", "java/lang/Exception"]).filter goodWord)
def wsX6_needWhole : List Cond := .code yX6_needWhole cX6_needWhole 3 none :: ([.classLink RX6 206 "java/lang/IllegalArgumentException", .initialized "java/lang/IllegalArgumentException"] ++ (vx_atS RX6 210 "java/lang/IllegalArgumentException" ["java/lang/RuntimeException", "java/lang/Exception"]).filter goodWord)
def wsX6_bus : List Cond := .code yX6_bus cX6_bus 2 none :: ([.constant RX6 89 (1000000), .fieldLink RX6 94 "CellKeeper" "bus" "I", .methodLink RX6 90 yX6_needWhole, .static yX6_needWhole, .initialized RX6, .code yX6_needWhole cX6_needWhole 3 none, .classLink RX6 206 "java/lang/IllegalArgumentException", .initialized "java/lang/IllegalArgumentException", .methodLink RX6 69 yX6_needPower, .instanceMethod yX6_needPower, .selects RX6 yX6_needPower yX6_needPower, .code yX6_needPower cX6_needPower 1 none, .classLink RX6 194 "java/lang/IllegalStateException", .initialized "java/lang/IllegalStateException", .fieldLink RX6 104 "CellKeeper" "dark" "Z"] ++ wsX60 ++ (vx_atS RX6 210 "java/lang/IllegalArgumentException" ["java/lang/RuntimeException", "java/lang/Exception"]).filter goodWord ++ (vx_atS RX6 198 "java/lang/IllegalStateException" ["java/lang/RuntimeException", "java/lang/Exception"]).filter goodWord)
def wsX6_want : List Cond := .code yX6_want cX6_want 2 none :: ([.fieldLink RX6 97 "CellKeeper" "wanted" "Z", .methodLink RX6 69 yX6_needPower, .instanceMethod yX6_needPower, .selects RX6 yX6_needPower yX6_needPower, .initialized RX6, .code yX6_needPower cX6_needPower 1 none, .classLink RX6 194 "java/lang/IllegalStateException", .initialized "java/lang/IllegalStateException", .fieldLink RX6 104 "CellKeeper" "dark" "Z"] ++ wsX60 ++ (vx_atS RX6 198 "java/lang/IllegalStateException" ["java/lang/RuntimeException", "java/lang/Exception"]).filter goodWord)
def wsX6_set : List Cond := .code yX6_set cX6_set 3 none :: ([.fieldLink RX6 20 "CellKeeper" "capacity" "I", .fieldLink RX6 101 "CellKeeper" "charge" "D", .methodLink RX6 82 yX6_needAmount, .static yX6_needAmount, .initialized RX6, .code yX6_needAmount cX6_needAmount 5 none, .classLink RX6 206 "java/lang/IllegalArgumentException", .initialized "java/lang/IllegalArgumentException", .constantDouble RX6 211 (4620693217682128896), .methodLink RX6 69 yX6_needPower, .instanceMethod yX6_needPower, .selects RX6 yX6_needPower yX6_needPower, .code yX6_needPower cX6_needPower 1 none, .classLink RX6 194 "java/lang/IllegalStateException", .initialized "java/lang/IllegalStateException", .fieldLink RX6 104 "CellKeeper" "dark" "Z"] ++ wsX60 ++ (vx_atS RX6 210 "java/lang/IllegalArgumentException" ["java/lang/RuntimeException", "java/lang/Exception"]).filter goodWord ++ (vx_atS RX6 198 "java/lang/IllegalStateException" ["java/lang/RuntimeException", "java/lang/Exception"]).filter goodWord)
def wsX6_currentSize : List Cond := .code yX6_currentSize cX6_currentSize 1 (some .double) :: ([.fieldLink RX6 74 "CellKeeper" "amperes" "D"] ++ wsX60)
def wsX6_partsAtRest : List Cond := .code yX6_partsAtRest cX6_partsAtRest 4 (some .int) :: ([.fieldLink RX6 280 "CellKeeper" "REST_MILLIVOLTS" "[I", .fieldLink RX6 283 "CellKeeper" "REST_PARTS" "[I"])
def wsX6_moveCharge_r1 : List Cond := [Cond.fieldLink RX6 101 "CellKeeper" "charge" "D", Cond.fieldLink RX6 74 "CellKeeper" "amperes" "D", Cond.fieldLink RX6 20 "CellKeeper" "capacity" "I", Cond.fieldLink RX6 161 "CellKeeper" "through" "D", Cond.constantDouble RX6 264 (4666723172467343360), Cond.constantDouble RX6 266 (4602678819172646912), Cond.fieldLink RX6 215 "CellKeeper" "rest" "I", Cond.fieldLink RX6 30 "CellKeeper" "survey" "LCellKeeper$Survey;", Cond.fieldLink RX6 272 "CellKeeper$Survey" "sum" "I", Cond.fieldLink RX6 15 "CellKeeper" "chain" "[LCellKeeper$Chip;", Cond.methodLink RX6 191 Lib.Math.max.name, Cond.static Lib.Math.max.name, Cond.initialized "java/lang/Math", Cond.code Lib.Math.max.name Lib.Math.max.code 2 (some .int), Cond.constantDouble RX6 278 (4652218415073722368), Cond.methodLink RX6 260 yX6_currentSize, Cond.instanceMethod yX6_currentSize, Cond.selects RX6 yX6_currentSize yX6_currentSize, Cond.initialized RX6, Cond.code yX6_currentSize cX6_currentSize 1 (some .double), Cond.methodLink RX6 268 yX5_allValid, Cond.instanceMethod yX5_allValid, Cond.selects RX5 yX5_allValid yX5_allValid, Cond.initialized RX5]
def wsX6_moveCharge_r2 : List Cond := [Cond.code yX5_allValid cX5_allValid 1 (some .boolean), Cond.fieldLink RX5 9 "CellKeeper$Survey" "staleChip" "Z", Cond.fieldLink RX5 15 "CellKeeper$Survey" "invalidCell" "Z", Cond.methodLink RX6 275 yX6_partsAtRest, Cond.static yX6_partsAtRest, Cond.code yX6_partsAtRest cX6_partsAtRest 4 (some .int), Cond.fieldLink RX6 280 "CellKeeper" "REST_MILLIVOLTS" "[I", Cond.fieldLink RX6 283 "CellKeeper" "REST_PARTS" "[I"]
def wsX6_moveCharge : List Cond := .code yX6_moveCharge cX6_moveCharge 2 none :: ((wsX6_moveCharge_r1 ++ wsX6_moveCharge_r2) ++ wsX60 ++ wsX50)
def wsX6_heatShare : List Cond := .code yX6_heatShare cX6_heatShare 2 (some .int) :: ([.constantDouble RX6 307 (4631530004285489152), .constantDouble RX6 309 (4633781804099174400), .constantDouble RX6 303 (4634204016564240384), .constantDouble RX6 311 (4616189618054758400)])
def wsX6_coldShare : List Cond := .code yX6_coldShare cX6_coldShare 2 (some .int) :: ([.constantDouble RX6 313 (4621819117588971520), .constantDouble RX6 315 (13850257704024539136), .constantDouble RX6 317 (4611686018427387904), .constantDouble RX6 319 (4626885667169763328)])
def wsX6_wholeCapacities : List Cond := .code yX6_wholeCapacities cX6_wholeCapacities 4 (some .int) :: ([.fieldLink RX6 20 "CellKeeper" "capacity" "I"] ++ wsX60)
def wsX6_chargeShare : List Cond := .code yX6_chargeShare cX6_chargeShare 3 (some .int) :: ([.constantDouble RX6 211 (4620693217682128896), .fieldLink RX6 20 "CellKeeper" "capacity" "I", .constantDouble RX6 321 (4647714815446351872), .methodLink RX6 157 yX6_wholeCapacities, .instanceMethod yX6_wholeCapacities, .selects RX6 yX6_wholeCapacities yX6_wholeCapacities, .initialized RX6, .code yX6_wholeCapacities cX6_wholeCapacities 4 (some .int)] ++ wsX60)
def wsX6_tellAllowed_r1 : List Cond := [Cond.fieldLink RX6 30 "CellKeeper" "survey" "LCellKeeper$Survey;", Cond.fieldLink RX6 286 "CellKeeper$Survey" "hottest" "D", Cond.fieldLink RX6 292 "CellKeeper$Survey" "coldest" "D", Cond.methodLink RX6 185 Lib.Math.min.name, Cond.static Lib.Math.min.name, Cond.initialized "java/lang/Math", Cond.code Lib.Math.min.name Lib.Math.min.code 2 (some .int), Cond.constantDouble RX6 298 (4643985272004935680), Cond.fieldLink RX6 101 "CellKeeper" "charge" "D", Cond.constantDouble RX6 303 (4634204016564240384), Cond.fieldLink RX6 167 "CellKeeper" "mayGive" "D", Cond.constantDouble RX6 305 (4639481672377565184), Cond.fieldLink RX6 20 "CellKeeper" "capacity" "I", Cond.fieldLink RX6 164 "CellKeeper" "mayTake" "D", Cond.methodLink RX6 289 yX6_heatShare, Cond.static yX6_heatShare, Cond.initialized RX6, Cond.code yX6_heatShare cX6_heatShare 2 (some .int), Cond.constantDouble RX6 307 (4631530004285489152), Cond.constantDouble RX6 309 (4633781804099174400), Cond.constantDouble RX6 311 (4616189618054758400), Cond.methodLink RX6 295 yX6_coldShare, Cond.static yX6_coldShare, Cond.code yX6_coldShare cX6_coldShare 2 (some .int)]
def wsX6_tellAllowed_r2 : List Cond := [Cond.constantDouble RX6 313 (4621819117588971520), Cond.constantDouble RX6 315 (13850257704024539136), Cond.constantDouble RX6 317 (4611686018427387904), Cond.constantDouble RX6 319 (4626885667169763328), Cond.methodLink RX6 300 yX6_chargeShare, Cond.instanceMethod yX6_chargeShare, Cond.selects RX6 yX6_chargeShare yX6_chargeShare, Cond.code yX6_chargeShare cX6_chargeShare 3 (some .int), Cond.constantDouble RX6 211 (4620693217682128896), Cond.constantDouble RX6 321 (4647714815446351872), Cond.methodLink RX6 157 yX6_wholeCapacities, Cond.instanceMethod yX6_wholeCapacities, Cond.selects RX6 yX6_wholeCapacities yX6_wholeCapacities, Cond.code yX6_wholeCapacities cX6_wholeCapacities 4 (some .int)]
def wsX6_tellAllowed : List Cond := .code yX6_tellAllowed cX6_tellAllowed 2 none :: ((wsX6_tellAllowed_r1 ++ wsX6_tellAllowed_r2) ++ wsX60 ++ wsX50)
def wsX6_watchCauses_r1 : List Cond := [Cond.fieldLink RX6 39 "CellKeeper" "alarms" "LCellKeeper$Alarms;", Cond.fieldLink RX6 254 "CellKeeper$Alarms" "fresh" "Z", Cond.fieldLink RX6 30 "CellKeeper" "survey" "LCellKeeper$Survey;", Cond.fieldLink RX6 323 "CellKeeper$Survey" "staleChip" "Z", Cond.fieldLink RX6 330 "CellKeeper$Survey" "invalidCell" "Z", Cond.fieldLink RX6 333 "CellKeeper$Survey" "greatest" "I", Cond.fieldLink RX6 336 "CellKeeper$Survey" "least" "I", Cond.fieldLink RX6 286 "CellKeeper$Survey" "hottest" "D", Cond.constantDouble RX6 339 (4633641066610819072), Cond.fieldLink RX6 292 "CellKeeper$Survey" "coldest" "D", Cond.constantDouble RX6 341 (13852509503838224384), Cond.fieldLink RX6 74 "CellKeeper" "amperes" "D", Cond.fieldLink RX6 167 "CellKeeper" "mayGive" "D", Cond.constantDouble RX6 313 (4621819117588971520), Cond.fieldLink RX6 164 "CellKeeper" "mayTake" "D", Cond.methodLink RX6 326 yX0_watch, Cond.instanceMethod yX0_watch, Cond.selects RX0 yX0_watch yX0_watch, Cond.initialized RX0, Cond.code yX0_watch cX0_watch 3 none, Cond.fieldLink RX0 9 "CellKeeper$Alarms" "counts" "[I", Cond.methodLink RX0 24 Lib.Math.min.name, Cond.static Lib.Math.min.name, Cond.initialized "java/lang/Math"]
def wsX6_watchCauses_r2 : List Cond := [Cond.code Lib.Math.min.name Lib.Math.min.code 2 (some .int), Cond.fieldLink RX0 13 "CellKeeper$Alarms" "debounce" "I", Cond.methodLink RX0 30 yX0_latch, Cond.instanceMethod yX0_latch, Cond.selects RX0 yX0_latch yX0_latch, Cond.code yX0_latch cX0_latch 2 none, Cond.fieldLink RX0 17 "CellKeeper$Alarms" "latched" "I", Cond.fieldLink RX0 20 "CellKeeper$Alarms" "fresh" "Z", Cond.methodLink RX0 34 yX0_isLatched, Cond.instanceMethod yX0_isLatched, Cond.selects RX0 yX0_isLatched yX0_isLatched, Cond.code yX0_isLatched cX0_isLatched 2 (some .boolean)]
def wsX6_watchCauses : List Cond := .code yX6_watchCauses cX6_watchCauses 1 none :: ((wsX6_watchCauses_r1 ++ wsX6_watchCauses_r2) ++ wsX60 ++ wsX00 ++ wsX50)
def wsX6_letBleed_r1 : List Cond := [Cond.fieldLink RX6 46 "CellKeeper" "contactors" "LCellKeeper$Contactors;", Cond.fieldLink RX6 110 "CellKeeper$Contactors" "state" "I", Cond.fieldLink RX6 39 "CellKeeper" "alarms" "LCellKeeper$Alarms;", Cond.constantDouble RX6 317 (4611686018427387904), Cond.fieldLink RX6 15 "CellKeeper" "chain" "[LCellKeeper$Chip;", Cond.fieldLink RX6 30 "CellKeeper" "survey" "LCellKeeper$Survey;", Cond.fieldLink RX6 336 "CellKeeper$Survey" "least" "I", Cond.fieldLink RX6 138 "CellKeeper" "time" "I", Cond.fieldLink RX6 174 "CellKeeper$Chip" "bleeds" "I", Cond.methodLink RX6 343 yX0_anySerious, Cond.instanceMethod yX0_anySerious, Cond.selects RX0 yX0_anySerious yX0_anySerious, Cond.initialized RX0, Cond.code yX0_anySerious cX0_anySerious 1 (some .boolean), Cond.fieldLink RX0 17 "CellKeeper$Alarms" "latched" "I", Cond.methodLink RX6 260 yX6_currentSize, Cond.instanceMethod yX6_currentSize, Cond.selects RX6 yX6_currentSize yX6_currentSize, Cond.initialized RX6, Cond.code yX6_currentSize cX6_currentSize 1 (some .double), Cond.fieldLink RX6 74 "CellKeeper" "amperes" "D", Cond.methodLink RX6 346 yX3_cellsToBleed, Cond.instanceMethod yX3_cellsToBleed, Cond.selects RX3 yX3_cellsToBleed yX3_cellsToBleed]
def wsX6_letBleed_r2 : List Cond := [Cond.initialized RX3, Cond.code yX3_cellsToBleed cX3_cellsToBleed 7 (some .int), Cond.fieldLink RX3 9 "CellKeeper$Chip" "numbers" "[I", Cond.methodLink RX3 66 yX3_isValid, Cond.instanceMethod yX3_isValid, Cond.selects RX3 yX3_isValid yX3_isValid, Cond.code yX3_isValid cX3_isValid 2 (some .boolean), Cond.fieldLink RX3 22 "CellKeeper$Chip" "status" "I", Cond.methodLink RX3 53 yX3_isStale, Cond.instanceMethod yX3_isStale, Cond.selects RX3 yX3_isStale yX3_isStale, Cond.code yX3_isStale cX3_isStale 1 (some .boolean), Cond.fieldLink RX3 26 "CellKeeper$Chip" "used" "I", Cond.fieldLink RX3 29 "CellKeeper$Chip" "age" "I", Cond.methodLink RX3 57 yX3_isStuck, Cond.instanceMethod yX3_isStuck, Cond.selects RX3 yX3_isStuck yX3_isStuck, Cond.code yX3_isStuck cX3_isStuck 2 (some .boolean), Cond.fieldLink RX3 15 "CellKeeper$Chip" "alike" "[I", Cond.methodLink RX3 61 yX3_currentsSwing, Cond.instanceMethod yX3_currentsSwing, Cond.selects RX3 yX3_currentsSwing yX3_currentsSwing, Cond.code yX3_currentsSwing cX3_currentsSwing 10 (some .boolean), Cond.fieldLink RX3 18 "CellKeeper$Chip" "currents" "[D"]
def wsX6_letBleed_r3 : List Cond := [Cond.constantDouble RX3 64 (4620693217682128896)]
def wsX6_letBleed : List Cond := .code yX6_letBleed cX6_letBleed 7 none :: ((wsX6_letBleed_r1 ++ (wsX6_letBleed_r2 ++ wsX6_letBleed_r3)) ++ wsX60 ++ wsX40 ++ wsX50 ++ wsX30 ++ wsX00)
def wsX6_writeBlock_r1 : List Cond := [Cond.fieldLink RX6 101 "CellKeeper" "charge" "D", Cond.constantDouble RX6 229 (4665729213955833856), Cond.fieldLink RX6 53 "CellKeeper" "blocks" "LCellKeeper$Blocks;", Cond.fieldLink RX6 138 "CellKeeper" "time" "I", Cond.fieldLink RX6 39 "CellKeeper" "alarms" "LCellKeeper$Alarms;", Cond.fieldLink RX6 152 "CellKeeper$Alarms" "latched" "I", Cond.fieldLink RX6 46 "CellKeeper" "contactors" "LCellKeeper$Contactors;", Cond.fieldLink RX6 110 "CellKeeper$Contactors" "state" "I", Cond.fieldLink RX6 104 "CellKeeper" "dark" "Z", Cond.methodLink RX6 349 yX1_write, Cond.instanceMethod yX1_write, Cond.selects RX1 yX1_write yX1_write, Cond.initialized RX1, Cond.code yX1_write cX1_write 8 (some .boolean), Cond.fieldLink RX1 20 "CellKeeper$Blocks" "next" "I", Cond.fieldLink RX1 9 "CellKeeper$Blocks" "draft" "[B", Cond.fieldLink RX1 23 "CellKeeper$Blocks" "limit" "I", Cond.fieldLink RX1 17 "CellKeeper$Blocks" "bytes" "[B", Cond.methodLink RX1 26 yX1_lay, Cond.instanceMethod yX1_lay, Cond.selects RX1 yX1_lay yX1_lay, Cond.code yX1_lay cX1_lay 6 none, Cond.methodLink RX1 30 yX2_ofRow, Cond.static yX2_ofRow]
def wsX6_writeBlock_r2 : List Cond := [Cond.initialized RX2, Cond.code yX2_ofRow cX2_ofRow 6 (some .int), Cond.methodLink RX2 13 Lib.Math.min.name, Cond.static Lib.Math.min.name, Cond.initialized "java/lang/Math", Cond.code Lib.Math.min.name Lib.Math.min.code 2 (some .int), Cond.methodLink RX2 18 Lib.Math.max.name, Cond.static Lib.Math.max.name, Cond.code Lib.Math.max.name Lib.Math.max.code 2 (some .int), Cond.methodLink RX2 7 yX2_withByte, Cond.static yX2_withByte, Cond.code yX2_withByte cX2_withByte 5 (some .int), Cond.methodLink RX1 36 yX1_placeOf, Cond.instanceMethod yX1_placeOf, Cond.selects RX1 yX1_placeOf yX1_placeOf, Cond.code yX1_placeOf cX1_placeOf 2 (some .int), Cond.fieldLink RX1 13 "CellKeeper$Blocks" "places" "I", Cond.methodLink RX1 40 yJ9_floorMod_7cf53, Cond.static yJ9_floorMod_7cf53, Cond.initialized RJ9, Cond.code yJ9_floorMod_7cf53 cJ9_floorMod_7cf53 3 (some .int)]
def wsX6_writeBlock : List Cond := .code yX6_writeBlock cX6_writeBlock 4 none :: ((wsX6_writeBlock_r1 ++ wsX6_writeBlock_r2) ++ wsX60 ++ wsX00 ++ wsX40 ++ wsX10)
def wsX6_passOneTick_r1 : List Cond := [Cond.fieldLink RX6 138 "CellKeeper" "time" "I", Cond.fieldLink RX6 15 "CellKeeper" "chain" "[LCellKeeper$Chip;", Cond.fieldLink RX6 231 "CellKeeper$Chip" "age" "I", Cond.fieldLink RX6 30 "CellKeeper" "survey" "LCellKeeper$Survey;", Cond.fieldLink RX6 46 "CellKeeper" "contactors" "LCellKeeper$Contactors;", Cond.fieldLink RX6 97 "CellKeeper" "wanted" "Z", Cond.fieldLink RX6 94 "CellKeeper" "bus" "I", Cond.fieldLink RX6 39 "CellKeeper" "alarms" "LCellKeeper$Alarms;", Cond.fieldLink RX6 254 "CellKeeper$Alarms" "fresh" "Z", Cond.fieldLink RX6 24 "CellKeeper" "every" "I", Cond.methodLink RX6 234 yX5_look, Cond.instanceMethod yX5_look, Cond.selects RX5 yX5_look yX5_look, Cond.initialized RX5, Cond.code yX5_look cX5_look 6 none, Cond.fieldLink RX5 9 "CellKeeper$Survey" "staleChip" "Z", Cond.fieldLink RX5 15 "CellKeeper$Survey" "invalidCell" "Z", Cond.fieldLink RX5 18 "CellKeeper$Survey" "sum" "I", Cond.constant RX5 24 (2147483647), Cond.fieldLink RX5 25 "CellKeeper$Survey" "least" "I", Cond.fieldLink RX5 28 "CellKeeper$Survey" "greatest" "I", Cond.constantDouble RX5 31 (13860109328209412096), Cond.fieldLink RX5 33 "CellKeeper$Survey" "hottest" "D", Cond.constantDouble RX5 37 (4641240890982006784)]
def wsX6_passOneTick_r2 : List Cond := [Cond.fieldLink RX5 39 "CellKeeper$Survey" "coldest" "D", Cond.fieldLink RX5 42 "CellKeeper$Chip" "degrees" "D", Cond.methodLink RX5 47 yX3_isStale, Cond.instanceMethod yX3_isStale, Cond.selects RX3 yX3_isStale yX3_isStale, Cond.initialized RX3, Cond.code yX3_isStale cX3_isStale 1 (some .boolean), Cond.fieldLink RX3 26 "CellKeeper$Chip" "used" "I", Cond.fieldLink RX3 29 "CellKeeper$Chip" "age" "I", Cond.methodLink RX5 51 yX5_lookAtCells, Cond.instanceMethod yX5_lookAtCells, Cond.selects RX5 yX5_lookAtCells yX5_lookAtCells, Cond.code yX5_lookAtCells cX5_lookAtCells 4 none, Cond.fieldLink RX5 59 "CellKeeper$Chip" "numbers" "[I", Cond.methodLink RX5 63 Lib.Math.min.name, Cond.static Lib.Math.min.name, Cond.initialized "java/lang/Math", Cond.code Lib.Math.min.name Lib.Math.min.code 2 (some .int), Cond.methodLink RX5 69 Lib.Math.max.name, Cond.static Lib.Math.max.name, Cond.code Lib.Math.max.name Lib.Math.max.code 2 (some .int), Cond.methodLink RX5 55 yX3_isValid, Cond.instanceMethod yX3_isValid, Cond.selects RX3 yX3_isValid yX3_isValid]
def wsX6_passOneTick_r3 : List Cond := [Cond.code yX3_isValid cX3_isValid 2 (some .boolean), Cond.fieldLink RX3 9 "CellKeeper$Chip" "numbers" "[I", Cond.fieldLink RX3 22 "CellKeeper$Chip" "status" "I", Cond.methodLink RX3 53 yX3_isStale, Cond.methodLink RX3 57 yX3_isStuck, Cond.instanceMethod yX3_isStuck, Cond.selects RX3 yX3_isStuck yX3_isStuck, Cond.code yX3_isStuck cX3_isStuck 2 (some .boolean), Cond.fieldLink RX3 15 "CellKeeper$Chip" "alike" "[I", Cond.methodLink RX3 61 yX3_currentsSwing, Cond.instanceMethod yX3_currentsSwing, Cond.selects RX3 yX3_currentsSwing yX3_currentsSwing, Cond.code yX3_currentsSwing cX3_currentsSwing 10 (some .boolean), Cond.fieldLink RX3 18 "CellKeeper$Chip" "currents" "[D", Cond.constantDouble RX3 64 (4620693217682128896), Cond.methodLink RX6 238 yX6_moveCharge, Cond.instanceMethod yX6_moveCharge, Cond.selects RX6 yX6_moveCharge yX6_moveCharge, Cond.initialized RX6, Cond.code yX6_moveCharge cX6_moveCharge 2 none, Cond.fieldLink RX6 101 "CellKeeper" "charge" "D", Cond.fieldLink RX6 74 "CellKeeper" "amperes" "D", Cond.fieldLink RX6 20 "CellKeeper" "capacity" "I", Cond.fieldLink RX6 161 "CellKeeper" "through" "D"]
def wsX6_passOneTick_r4 : List Cond := [Cond.constantDouble RX6 264 (4666723172467343360), Cond.constantDouble RX6 266 (4602678819172646912), Cond.fieldLink RX6 215 "CellKeeper" "rest" "I", Cond.fieldLink RX6 272 "CellKeeper$Survey" "sum" "I", Cond.methodLink RX6 191 Lib.Math.max.name, Cond.constantDouble RX6 278 (4652218415073722368), Cond.methodLink RX6 260 yX6_currentSize, Cond.instanceMethod yX6_currentSize, Cond.selects RX6 yX6_currentSize yX6_currentSize, Cond.code yX6_currentSize cX6_currentSize 1 (some .double), Cond.methodLink RX6 268 yX5_allValid, Cond.instanceMethod yX5_allValid, Cond.selects RX5 yX5_allValid yX5_allValid, Cond.code yX5_allValid cX5_allValid 1 (some .boolean), Cond.methodLink RX6 275 yX6_partsAtRest, Cond.static yX6_partsAtRest, Cond.code yX6_partsAtRest cX6_partsAtRest 4 (some .int), Cond.fieldLink RX6 280 "CellKeeper" "REST_MILLIVOLTS" "[I", Cond.fieldLink RX6 283 "CellKeeper" "REST_PARTS" "[I", Cond.methodLink RX6 241 yX6_tellAllowed, Cond.instanceMethod yX6_tellAllowed, Cond.selects RX6 yX6_tellAllowed yX6_tellAllowed, Cond.code yX6_tellAllowed cX6_tellAllowed 2 none, Cond.fieldLink RX6 286 "CellKeeper$Survey" "hottest" "D"]
def wsX6_passOneTick_r5 : List Cond := [Cond.fieldLink RX6 292 "CellKeeper$Survey" "coldest" "D", Cond.methodLink RX6 185 Lib.Math.min.name, Cond.constantDouble RX6 298 (4643985272004935680), Cond.constantDouble RX6 303 (4634204016564240384), Cond.fieldLink RX6 167 "CellKeeper" "mayGive" "D", Cond.constantDouble RX6 305 (4639481672377565184), Cond.fieldLink RX6 164 "CellKeeper" "mayTake" "D", Cond.methodLink RX6 289 yX6_heatShare, Cond.static yX6_heatShare, Cond.code yX6_heatShare cX6_heatShare 2 (some .int), Cond.constantDouble RX6 307 (4631530004285489152), Cond.constantDouble RX6 309 (4633781804099174400), Cond.constantDouble RX6 311 (4616189618054758400), Cond.methodLink RX6 295 yX6_coldShare, Cond.static yX6_coldShare, Cond.code yX6_coldShare cX6_coldShare 2 (some .int), Cond.constantDouble RX6 313 (4621819117588971520), Cond.constantDouble RX6 315 (13850257704024539136), Cond.constantDouble RX6 317 (4611686018427387904), Cond.constantDouble RX6 319 (4626885667169763328), Cond.methodLink RX6 300 yX6_chargeShare, Cond.instanceMethod yX6_chargeShare, Cond.selects RX6 yX6_chargeShare yX6_chargeShare, Cond.code yX6_chargeShare cX6_chargeShare 3 (some .int)]
def wsX6_passOneTick_r6 : List Cond := [Cond.constantDouble RX6 211 (4620693217682128896), Cond.constantDouble RX6 321 (4647714815446351872), Cond.methodLink RX6 157 yX6_wholeCapacities, Cond.instanceMethod yX6_wholeCapacities, Cond.selects RX6 yX6_wholeCapacities yX6_wholeCapacities, Cond.code yX6_wholeCapacities cX6_wholeCapacities 4 (some .int), Cond.methodLink RX6 244 yX6_watchCauses, Cond.instanceMethod yX6_watchCauses, Cond.selects RX6 yX6_watchCauses yX6_watchCauses, Cond.code yX6_watchCauses cX6_watchCauses 1 none, Cond.fieldLink RX6 323 "CellKeeper$Survey" "staleChip" "Z", Cond.fieldLink RX6 330 "CellKeeper$Survey" "invalidCell" "Z", Cond.fieldLink RX6 333 "CellKeeper$Survey" "greatest" "I", Cond.fieldLink RX6 336 "CellKeeper$Survey" "least" "I", Cond.constantDouble RX6 339 (4633641066610819072), Cond.constantDouble RX6 341 (13852509503838224384), Cond.methodLink RX6 326 yX0_watch, Cond.instanceMethod yX0_watch, Cond.selects RX0 yX0_watch yX0_watch, Cond.initialized RX0, Cond.code yX0_watch cX0_watch 3 none, Cond.fieldLink RX0 9 "CellKeeper$Alarms" "counts" "[I", Cond.methodLink RX0 24 Lib.Math.min.name, Cond.fieldLink RX0 13 "CellKeeper$Alarms" "debounce" "I"]
def wsX6_passOneTick_r7 : List Cond := [Cond.methodLink RX0 30 yX0_latch, Cond.instanceMethod yX0_latch, Cond.selects RX0 yX0_latch yX0_latch, Cond.code yX0_latch cX0_latch 2 none, Cond.fieldLink RX0 17 "CellKeeper$Alarms" "latched" "I", Cond.fieldLink RX0 20 "CellKeeper$Alarms" "fresh" "Z", Cond.methodLink RX0 34 yX0_isLatched, Cond.instanceMethod yX0_isLatched, Cond.selects RX0 yX0_isLatched yX0_isLatched, Cond.code yX0_isLatched cX0_isLatched 2 (some .boolean), Cond.methodLink RX6 247 yX4_step, Cond.instanceMethod yX4_step, Cond.selects RX4 yX4_step yX4_step, Cond.initialized RX4, Cond.code yX4_step cX4_step 7 none, Cond.fieldLink RX4 13 "CellKeeper$Contactors" "ticks" "I", Cond.fieldLink RX4 9 "CellKeeper$Contactors" "state" "I", Cond.methodLink RX4 16 yX0_anySerious, Cond.instanceMethod yX0_anySerious, Cond.selects RX0 yX0_anySerious yX0_anySerious, Cond.code yX0_anySerious cX0_anySerious 1 (some .boolean), Cond.methodLink RX4 22 yX4_opened, Cond.instanceMethod yX4_opened, Cond.selects RX4 yX4_opened yX4_opened]
def wsX6_passOneTick_r8 : List Cond := [Cond.code yX4_opened cX4_opened 4 (some .int), Cond.fieldLink RX4 34 "CellKeeper$Survey" "sum" "I", Cond.methodLink RX4 37 yX0_latch, Cond.methodLink RX4 26 yX4_precharged, Cond.instanceMethod yX4_precharged, Cond.selects RX4 yX4_precharged yX4_precharged, Cond.code yX4_precharged cX4_precharged 4 (some .int), Cond.methodLink RX4 29 yX5_allValid, Cond.methodLink RX6 251 yX6_letBleed, Cond.instanceMethod yX6_letBleed, Cond.selects RX6 yX6_letBleed yX6_letBleed, Cond.code yX6_letBleed cX6_letBleed 7 none, Cond.fieldLink RX6 110 "CellKeeper$Contactors" "state" "I", Cond.fieldLink RX6 174 "CellKeeper$Chip" "bleeds" "I", Cond.methodLink RX6 343 yX0_anySerious, Cond.methodLink RX6 346 yX3_cellsToBleed, Cond.instanceMethod yX3_cellsToBleed, Cond.selects RX3 yX3_cellsToBleed yX3_cellsToBleed, Cond.code yX3_cellsToBleed cX3_cellsToBleed 7 (some .int), Cond.methodLink RX3 66 yX3_isValid, Cond.methodLink RX6 257 yX6_writeBlock, Cond.instanceMethod yX6_writeBlock, Cond.selects RX6 yX6_writeBlock yX6_writeBlock, Cond.code yX6_writeBlock cX6_writeBlock 4 none]
def wsX6_passOneTick_r9 : List Cond := [Cond.constantDouble RX6 229 (4665729213955833856), Cond.fieldLink RX6 53 "CellKeeper" "blocks" "LCellKeeper$Blocks;", Cond.fieldLink RX6 152 "CellKeeper$Alarms" "latched" "I", Cond.fieldLink RX6 104 "CellKeeper" "dark" "Z", Cond.methodLink RX6 349 yX1_write, Cond.instanceMethod yX1_write, Cond.selects RX1 yX1_write yX1_write, Cond.initialized RX1, Cond.code yX1_write cX1_write 8 (some .boolean), Cond.fieldLink RX1 20 "CellKeeper$Blocks" "next" "I", Cond.fieldLink RX1 9 "CellKeeper$Blocks" "draft" "[B", Cond.fieldLink RX1 23 "CellKeeper$Blocks" "limit" "I", Cond.fieldLink RX1 17 "CellKeeper$Blocks" "bytes" "[B", Cond.methodLink RX1 26 yX1_lay, Cond.instanceMethod yX1_lay, Cond.selects RX1 yX1_lay yX1_lay, Cond.code yX1_lay cX1_lay 6 none, Cond.methodLink RX1 30 yX2_ofRow, Cond.static yX2_ofRow, Cond.initialized RX2, Cond.code yX2_ofRow cX2_ofRow 6 (some .int), Cond.methodLink RX2 13 Lib.Math.min.name, Cond.methodLink RX2 18 Lib.Math.max.name, Cond.methodLink RX2 7 yX2_withByte]
def wsX6_passOneTick_r10 : List Cond := [Cond.static yX2_withByte, Cond.code yX2_withByte cX2_withByte 5 (some .int), Cond.methodLink RX1 36 yX1_placeOf, Cond.instanceMethod yX1_placeOf, Cond.selects RX1 yX1_placeOf yX1_placeOf, Cond.code yX1_placeOf cX1_placeOf 2 (some .int), Cond.fieldLink RX1 13 "CellKeeper$Blocks" "places" "I", Cond.methodLink RX1 40 yJ9_floorMod_7cf53, Cond.static yJ9_floorMod_7cf53, Cond.initialized RJ9, Cond.code yJ9_floorMod_7cf53 cJ9_floorMod_7cf53 3 (some .int)]
def wsX6_passOneTick : List Cond := .code yX6_passOneTick cX6_passOneTick 5 none :: ((wsX6_passOneTick_r1 ++ (wsX6_passOneTick_r2 ++ (wsX6_passOneTick_r3 ++ (wsX6_passOneTick_r4 ++ (wsX6_passOneTick_r5 ++ (wsX6_passOneTick_r6 ++ (wsX6_passOneTick_r7 ++ (wsX6_passOneTick_r8 ++ (wsX6_passOneTick_r9 ++ wsX6_passOneTick_r10))))))))) ++ wsX60 ++ wsX30 ++ wsX00 ++ wsX50 ++ wsX40 ++ wsX10)
def wsX6_tick_r1 : List Cond := [Cond.fieldLink RX6 104 "CellKeeper" "dark" "Z", Cond.fieldLink RX6 46 "CellKeeper" "contactors" "LCellKeeper$Contactors;", Cond.fieldLink RX6 110 "CellKeeper$Contactors" "state" "I", Cond.methodLink RX6 90 yX6_needWhole, Cond.static yX6_needWhole, Cond.initialized RX6, Cond.code yX6_needWhole cX6_needWhole 3 none, Cond.classLink RX6 206 "java/lang/IllegalArgumentException", Cond.initialized "java/lang/IllegalArgumentException", Cond.methodLink RX6 69 yX6_needPower, Cond.instanceMethod yX6_needPower, Cond.selects RX6 yX6_needPower yX6_needPower, Cond.code yX6_needPower cX6_needPower 1 none, Cond.classLink RX6 194 "java/lang/IllegalStateException", Cond.initialized "java/lang/IllegalStateException", Cond.methodLink RX6 107 yX6_passOneTick, Cond.instanceMethod yX6_passOneTick, Cond.selects RX6 yX6_passOneTick yX6_passOneTick, Cond.code yX6_passOneTick cX6_passOneTick 5 none, Cond.fieldLink RX6 138 "CellKeeper" "time" "I", Cond.fieldLink RX6 15 "CellKeeper" "chain" "[LCellKeeper$Chip;", Cond.fieldLink RX6 231 "CellKeeper$Chip" "age" "I", Cond.fieldLink RX6 30 "CellKeeper" "survey" "LCellKeeper$Survey;", Cond.fieldLink RX6 97 "CellKeeper" "wanted" "Z"]
def wsX6_tick_r2 : List Cond := [Cond.fieldLink RX6 94 "CellKeeper" "bus" "I", Cond.fieldLink RX6 39 "CellKeeper" "alarms" "LCellKeeper$Alarms;", Cond.fieldLink RX6 254 "CellKeeper$Alarms" "fresh" "Z", Cond.fieldLink RX6 24 "CellKeeper" "every" "I", Cond.methodLink RX6 234 yX5_look, Cond.instanceMethod yX5_look, Cond.selects RX5 yX5_look yX5_look, Cond.initialized RX5, Cond.code yX5_look cX5_look 6 none, Cond.fieldLink RX5 9 "CellKeeper$Survey" "staleChip" "Z", Cond.fieldLink RX5 15 "CellKeeper$Survey" "invalidCell" "Z", Cond.fieldLink RX5 18 "CellKeeper$Survey" "sum" "I", Cond.constant RX5 24 (2147483647), Cond.fieldLink RX5 25 "CellKeeper$Survey" "least" "I", Cond.fieldLink RX5 28 "CellKeeper$Survey" "greatest" "I", Cond.constantDouble RX5 31 (13860109328209412096), Cond.fieldLink RX5 33 "CellKeeper$Survey" "hottest" "D", Cond.constantDouble RX5 37 (4641240890982006784), Cond.fieldLink RX5 39 "CellKeeper$Survey" "coldest" "D", Cond.fieldLink RX5 42 "CellKeeper$Chip" "degrees" "D", Cond.methodLink RX5 47 yX3_isStale, Cond.instanceMethod yX3_isStale, Cond.selects RX3 yX3_isStale yX3_isStale, Cond.initialized RX3]
def wsX6_tick_r3 : List Cond := [Cond.code yX3_isStale cX3_isStale 1 (some .boolean), Cond.fieldLink RX3 26 "CellKeeper$Chip" "used" "I", Cond.fieldLink RX3 29 "CellKeeper$Chip" "age" "I", Cond.methodLink RX5 51 yX5_lookAtCells, Cond.instanceMethod yX5_lookAtCells, Cond.selects RX5 yX5_lookAtCells yX5_lookAtCells, Cond.code yX5_lookAtCells cX5_lookAtCells 4 none, Cond.fieldLink RX5 59 "CellKeeper$Chip" "numbers" "[I", Cond.methodLink RX5 63 Lib.Math.min.name, Cond.static Lib.Math.min.name, Cond.initialized "java/lang/Math", Cond.code Lib.Math.min.name Lib.Math.min.code 2 (some .int), Cond.methodLink RX5 69 Lib.Math.max.name, Cond.static Lib.Math.max.name, Cond.code Lib.Math.max.name Lib.Math.max.code 2 (some .int), Cond.methodLink RX5 55 yX3_isValid, Cond.instanceMethod yX3_isValid, Cond.selects RX3 yX3_isValid yX3_isValid, Cond.code yX3_isValid cX3_isValid 2 (some .boolean), Cond.fieldLink RX3 9 "CellKeeper$Chip" "numbers" "[I", Cond.fieldLink RX3 22 "CellKeeper$Chip" "status" "I", Cond.methodLink RX3 53 yX3_isStale, Cond.methodLink RX3 57 yX3_isStuck, Cond.instanceMethod yX3_isStuck]
def wsX6_tick_r4 : List Cond := [Cond.selects RX3 yX3_isStuck yX3_isStuck, Cond.code yX3_isStuck cX3_isStuck 2 (some .boolean), Cond.fieldLink RX3 15 "CellKeeper$Chip" "alike" "[I", Cond.methodLink RX3 61 yX3_currentsSwing, Cond.instanceMethod yX3_currentsSwing, Cond.selects RX3 yX3_currentsSwing yX3_currentsSwing, Cond.code yX3_currentsSwing cX3_currentsSwing 10 (some .boolean), Cond.fieldLink RX3 18 "CellKeeper$Chip" "currents" "[D", Cond.constantDouble RX3 64 (4620693217682128896), Cond.methodLink RX6 238 yX6_moveCharge, Cond.instanceMethod yX6_moveCharge, Cond.selects RX6 yX6_moveCharge yX6_moveCharge, Cond.code yX6_moveCharge cX6_moveCharge 2 none, Cond.fieldLink RX6 101 "CellKeeper" "charge" "D", Cond.fieldLink RX6 74 "CellKeeper" "amperes" "D", Cond.fieldLink RX6 20 "CellKeeper" "capacity" "I", Cond.fieldLink RX6 161 "CellKeeper" "through" "D", Cond.constantDouble RX6 264 (4666723172467343360), Cond.constantDouble RX6 266 (4602678819172646912), Cond.fieldLink RX6 215 "CellKeeper" "rest" "I", Cond.fieldLink RX6 272 "CellKeeper$Survey" "sum" "I", Cond.methodLink RX6 191 Lib.Math.max.name, Cond.constantDouble RX6 278 (4652218415073722368), Cond.methodLink RX6 260 yX6_currentSize]
def wsX6_tick_r5 : List Cond := [Cond.instanceMethod yX6_currentSize, Cond.selects RX6 yX6_currentSize yX6_currentSize, Cond.code yX6_currentSize cX6_currentSize 1 (some .double), Cond.methodLink RX6 268 yX5_allValid, Cond.instanceMethod yX5_allValid, Cond.selects RX5 yX5_allValid yX5_allValid, Cond.code yX5_allValid cX5_allValid 1 (some .boolean), Cond.methodLink RX6 275 yX6_partsAtRest, Cond.static yX6_partsAtRest, Cond.code yX6_partsAtRest cX6_partsAtRest 4 (some .int), Cond.fieldLink RX6 280 "CellKeeper" "REST_MILLIVOLTS" "[I", Cond.fieldLink RX6 283 "CellKeeper" "REST_PARTS" "[I", Cond.methodLink RX6 241 yX6_tellAllowed, Cond.instanceMethod yX6_tellAllowed, Cond.selects RX6 yX6_tellAllowed yX6_tellAllowed, Cond.code yX6_tellAllowed cX6_tellAllowed 2 none, Cond.fieldLink RX6 286 "CellKeeper$Survey" "hottest" "D", Cond.fieldLink RX6 292 "CellKeeper$Survey" "coldest" "D", Cond.methodLink RX6 185 Lib.Math.min.name, Cond.constantDouble RX6 298 (4643985272004935680), Cond.constantDouble RX6 303 (4634204016564240384), Cond.fieldLink RX6 167 "CellKeeper" "mayGive" "D", Cond.constantDouble RX6 305 (4639481672377565184), Cond.fieldLink RX6 164 "CellKeeper" "mayTake" "D"]
def wsX6_tick_r6 : List Cond := [Cond.methodLink RX6 289 yX6_heatShare, Cond.static yX6_heatShare, Cond.code yX6_heatShare cX6_heatShare 2 (some .int), Cond.constantDouble RX6 307 (4631530004285489152), Cond.constantDouble RX6 309 (4633781804099174400), Cond.constantDouble RX6 311 (4616189618054758400), Cond.methodLink RX6 295 yX6_coldShare, Cond.static yX6_coldShare, Cond.code yX6_coldShare cX6_coldShare 2 (some .int), Cond.constantDouble RX6 313 (4621819117588971520), Cond.constantDouble RX6 315 (13850257704024539136), Cond.constantDouble RX6 317 (4611686018427387904), Cond.constantDouble RX6 319 (4626885667169763328), Cond.methodLink RX6 300 yX6_chargeShare, Cond.instanceMethod yX6_chargeShare, Cond.selects RX6 yX6_chargeShare yX6_chargeShare, Cond.code yX6_chargeShare cX6_chargeShare 3 (some .int), Cond.constantDouble RX6 211 (4620693217682128896), Cond.constantDouble RX6 321 (4647714815446351872), Cond.methodLink RX6 157 yX6_wholeCapacities, Cond.instanceMethod yX6_wholeCapacities, Cond.selects RX6 yX6_wholeCapacities yX6_wholeCapacities, Cond.code yX6_wholeCapacities cX6_wholeCapacities 4 (some .int), Cond.methodLink RX6 244 yX6_watchCauses]
def wsX6_tick_r7 : List Cond := [Cond.instanceMethod yX6_watchCauses, Cond.selects RX6 yX6_watchCauses yX6_watchCauses, Cond.code yX6_watchCauses cX6_watchCauses 1 none, Cond.fieldLink RX6 323 "CellKeeper$Survey" "staleChip" "Z", Cond.fieldLink RX6 330 "CellKeeper$Survey" "invalidCell" "Z", Cond.fieldLink RX6 333 "CellKeeper$Survey" "greatest" "I", Cond.fieldLink RX6 336 "CellKeeper$Survey" "least" "I", Cond.constantDouble RX6 339 (4633641066610819072), Cond.constantDouble RX6 341 (13852509503838224384), Cond.methodLink RX6 326 yX0_watch, Cond.instanceMethod yX0_watch, Cond.selects RX0 yX0_watch yX0_watch, Cond.initialized RX0, Cond.code yX0_watch cX0_watch 3 none, Cond.fieldLink RX0 9 "CellKeeper$Alarms" "counts" "[I", Cond.methodLink RX0 24 Lib.Math.min.name, Cond.fieldLink RX0 13 "CellKeeper$Alarms" "debounce" "I", Cond.methodLink RX0 30 yX0_latch, Cond.instanceMethod yX0_latch, Cond.selects RX0 yX0_latch yX0_latch, Cond.code yX0_latch cX0_latch 2 none, Cond.fieldLink RX0 17 "CellKeeper$Alarms" "latched" "I", Cond.fieldLink RX0 20 "CellKeeper$Alarms" "fresh" "Z", Cond.methodLink RX0 34 yX0_isLatched]
def wsX6_tick_r8 : List Cond := [Cond.instanceMethod yX0_isLatched, Cond.selects RX0 yX0_isLatched yX0_isLatched, Cond.code yX0_isLatched cX0_isLatched 2 (some .boolean), Cond.methodLink RX6 247 yX4_step, Cond.instanceMethod yX4_step, Cond.selects RX4 yX4_step yX4_step, Cond.initialized RX4, Cond.code yX4_step cX4_step 7 none, Cond.fieldLink RX4 13 "CellKeeper$Contactors" "ticks" "I", Cond.fieldLink RX4 9 "CellKeeper$Contactors" "state" "I", Cond.methodLink RX4 16 yX0_anySerious, Cond.instanceMethod yX0_anySerious, Cond.selects RX0 yX0_anySerious yX0_anySerious, Cond.code yX0_anySerious cX0_anySerious 1 (some .boolean), Cond.methodLink RX4 22 yX4_opened, Cond.instanceMethod yX4_opened, Cond.selects RX4 yX4_opened yX4_opened, Cond.code yX4_opened cX4_opened 4 (some .int), Cond.fieldLink RX4 34 "CellKeeper$Survey" "sum" "I", Cond.methodLink RX4 37 yX0_latch, Cond.methodLink RX4 26 yX4_precharged, Cond.instanceMethod yX4_precharged, Cond.selects RX4 yX4_precharged yX4_precharged, Cond.code yX4_precharged cX4_precharged 4 (some .int)]
def wsX6_tick_r9 : List Cond := [Cond.methodLink RX4 29 yX5_allValid, Cond.methodLink RX6 251 yX6_letBleed, Cond.instanceMethod yX6_letBleed, Cond.selects RX6 yX6_letBleed yX6_letBleed, Cond.code yX6_letBleed cX6_letBleed 7 none, Cond.fieldLink RX6 174 "CellKeeper$Chip" "bleeds" "I", Cond.methodLink RX6 343 yX0_anySerious, Cond.methodLink RX6 346 yX3_cellsToBleed, Cond.instanceMethod yX3_cellsToBleed, Cond.selects RX3 yX3_cellsToBleed yX3_cellsToBleed, Cond.code yX3_cellsToBleed cX3_cellsToBleed 7 (some .int), Cond.methodLink RX3 66 yX3_isValid, Cond.methodLink RX6 257 yX6_writeBlock, Cond.instanceMethod yX6_writeBlock, Cond.selects RX6 yX6_writeBlock yX6_writeBlock, Cond.code yX6_writeBlock cX6_writeBlock 4 none, Cond.constantDouble RX6 229 (4665729213955833856), Cond.fieldLink RX6 53 "CellKeeper" "blocks" "LCellKeeper$Blocks;", Cond.fieldLink RX6 152 "CellKeeper$Alarms" "latched" "I", Cond.methodLink RX6 349 yX1_write, Cond.instanceMethod yX1_write, Cond.selects RX1 yX1_write yX1_write, Cond.initialized RX1, Cond.code yX1_write cX1_write 8 (some .boolean)]
def wsX6_tick_r10 : List Cond := [Cond.fieldLink RX1 20 "CellKeeper$Blocks" "next" "I", Cond.fieldLink RX1 9 "CellKeeper$Blocks" "draft" "[B", Cond.fieldLink RX1 23 "CellKeeper$Blocks" "limit" "I", Cond.fieldLink RX1 17 "CellKeeper$Blocks" "bytes" "[B", Cond.methodLink RX1 26 yX1_lay, Cond.instanceMethod yX1_lay, Cond.selects RX1 yX1_lay yX1_lay, Cond.code yX1_lay cX1_lay 6 none, Cond.methodLink RX1 30 yX2_ofRow, Cond.static yX2_ofRow, Cond.initialized RX2, Cond.code yX2_ofRow cX2_ofRow 6 (some .int), Cond.methodLink RX2 13 Lib.Math.min.name, Cond.methodLink RX2 18 Lib.Math.max.name, Cond.methodLink RX2 7 yX2_withByte, Cond.static yX2_withByte, Cond.code yX2_withByte cX2_withByte 5 (some .int), Cond.methodLink RX1 36 yX1_placeOf, Cond.instanceMethod yX1_placeOf, Cond.selects RX1 yX1_placeOf yX1_placeOf, Cond.code yX1_placeOf cX1_placeOf 2 (some .int), Cond.fieldLink RX1 13 "CellKeeper$Blocks" "places" "I", Cond.methodLink RX1 40 yJ9_floorMod_7cf53, Cond.static yJ9_floorMod_7cf53]
def wsX6_tick_r11 : List Cond := [Cond.initialized RJ9, Cond.code yJ9_floorMod_7cf53 cJ9_floorMod_7cf53 3 (some .int)]
def wsX6_tick : List Cond := .code yX6_tick cX6_tick 3 (some .int) :: ((wsX6_tick_r1 ++ (wsX6_tick_r2 ++ (wsX6_tick_r3 ++ (wsX6_tick_r4 ++ (wsX6_tick_r5 ++ (wsX6_tick_r6 ++ (wsX6_tick_r7 ++ (wsX6_tick_r8 ++ (wsX6_tick_r9 ++ (wsX6_tick_r10 ++ wsX6_tick_r11)))))))))) ++ wsX60 ++ wsX40 ++ wsX30 ++ wsX00 ++ wsX50 ++ wsX10 ++ (vx_atS RX6 210 "java/lang/IllegalArgumentException" ["java/lang/RuntimeException", "java/lang/Exception"]).filter goodWord ++ (vx_atS RX6 198 "java/lang/IllegalStateException" ["java/lang/RuntimeException", "java/lang/Exception"]).filter goodWord)
def wsX6_reset_r1 : List Cond := [Cond.fieldLink RX6 39 "CellKeeper" "alarms" "LCellKeeper$Alarms;", Cond.fieldLink RX6 46 "CellKeeper" "contactors" "LCellKeeper$Contactors;", Cond.fieldLink RX6 110 "CellKeeper$Contactors" "state" "I", Cond.methodLink RX6 113 yX6_needIndex, Cond.static yX6_needIndex, Cond.initialized RX6, Cond.code yX6_needIndex cX6_needIndex 2 none, Cond.classLink RX6 201 "java/lang/IndexOutOfBoundsException", Cond.initialized "java/lang/IndexOutOfBoundsException", Cond.methodLink RX6 69 yX6_needPower, Cond.instanceMethod yX6_needPower, Cond.selects RX6 yX6_needPower yX6_needPower, Cond.code yX6_needPower cX6_needPower 1 none, Cond.classLink RX6 194 "java/lang/IllegalStateException", Cond.initialized "java/lang/IllegalStateException", Cond.fieldLink RX6 104 "CellKeeper" "dark" "Z", Cond.methodLink RX6 117 yX0_dismiss, Cond.instanceMethod yX0_dismiss, Cond.selects RX0 yX0_dismiss yX0_dismiss, Cond.initialized RX0, Cond.code yX0_dismiss cX0_dismiss 4 (some .boolean), Cond.fieldLink RX0 9 "CellKeeper$Alarms" "counts" "[I", Cond.fieldLink RX0 17 "CellKeeper$Alarms" "latched" "I", Cond.methodLink RX0 34 yX0_isLatched]
def wsX6_reset_r2 : List Cond := [Cond.instanceMethod yX0_isLatched, Cond.selects RX0 yX0_isLatched yX0_isLatched, Cond.code yX0_isLatched cX0_isLatched 2 (some .boolean)]
def wsX6_reset : List Cond := .code yX6_reset cX6_reset 2 (some .boolean) :: ((wsX6_reset_r1 ++ wsX6_reset_r2) ++ wsX60 ++ wsX40 ++ wsX00 ++ (vx_atS RX6 205 "java/lang/IndexOutOfBoundsException" ["java/lang/RuntimeException", "java/lang/Exception"]).filter goodWord ++ (vx_atS RX6 198 "java/lang/IllegalStateException" ["java/lang/RuntimeException", "java/lang/Exception"]).filter goodWord)
def wsX6_cut : List Cond := .code yX6_cut cX6_cut 2 none :: ([.fieldLink RX6 53 "CellKeeper" "blocks" "LCellKeeper$Blocks;", .fieldLink RX6 121 "CellKeeper$Blocks" "limit" "I", .methodLink RX6 90 yX6_needWhole, .static yX6_needWhole, .initialized RX6, .code yX6_needWhole cX6_needWhole 3 none, .classLink RX6 206 "java/lang/IllegalArgumentException", .initialized "java/lang/IllegalArgumentException", .methodLink RX6 69 yX6_needPower, .instanceMethod yX6_needPower, .selects RX6 yX6_needPower yX6_needPower, .code yX6_needPower cX6_needPower 1 none, .classLink RX6 194 "java/lang/IllegalStateException", .initialized "java/lang/IllegalStateException", .fieldLink RX6 104 "CellKeeper" "dark" "Z"] ++ wsX60 ++ wsX10 ++ (vx_atS RX6 210 "java/lang/IllegalArgumentException" ["java/lang/RuntimeException", "java/lang/Exception"]).filter goodWord ++ (vx_atS RX6 198 "java/lang/IllegalStateException" ["java/lang/RuntimeException", "java/lang/Exception"]).filter goodWord)
def wsX6_chargeOfParts : List Cond := .code yX6_chargeOfParts cX6_chargeOfParts 5 (some .double) :: ([.fieldLink RX6 20 "CellKeeper" "capacity" "I", .constantLong RX6 222 (8192), .methodLink RX6 224 Lib.MathLoose.min_long.x, .static Lib.MathLoose.min_long.x, .initialized "java/lang/Math", .code Lib.MathLoose.min_long.x Lib.MathLoose.min_long.code 4 (some .long), .methodLink RX6 227 Lib.MathLoose.max_long.x, .static Lib.MathLoose.max_long.x, .code Lib.MathLoose.max_long.x Lib.MathLoose.max_long.code 4 (some .long), .constantDouble RX6 229 (4665729213955833856)] ++ wsX60)
def wsX6_power_r1 : List Cond := [Cond.fieldLink RX6 53 "CellKeeper" "blocks" "LCellKeeper$Blocks;", Cond.fieldLink RX6 132 "CellKeeper$Blocks" "next" "I", Cond.fieldLink RX6 138 "CellKeeper" "time" "I", Cond.fieldLink RX6 101 "CellKeeper" "charge" "D", Cond.fieldLink RX6 39 "CellKeeper" "alarms" "LCellKeeper$Alarms;", Cond.fieldLink RX6 152 "CellKeeper$Alarms" "latched" "I", Cond.methodLink RX6 57 yX6_beginAnew, Cond.instanceMethod yX6_beginAnew, Cond.selects RX6 yX6_beginAnew yX6_beginAnew, Cond.initialized RX6, Cond.code yX6_beginAnew cX6_beginAnew 5 none, Cond.fieldLink RX6 104 "CellKeeper" "dark" "Z", Cond.fieldLink RX6 161 "CellKeeper" "through" "D", Cond.fieldLink RX6 215 "CellKeeper" "rest" "I", Cond.fieldLink RX6 74 "CellKeeper" "amperes" "D", Cond.fieldLink RX6 94 "CellKeeper" "bus" "I", Cond.fieldLink RX6 97 "CellKeeper" "wanted" "Z", Cond.fieldLink RX6 167 "CellKeeper" "mayGive" "D", Cond.fieldLink RX6 164 "CellKeeper" "mayTake" "D", Cond.fieldLink RX6 15 "CellKeeper" "chain" "[LCellKeeper$Chip;", Cond.fieldLink RX6 46 "CellKeeper" "contactors" "LCellKeeper$Contactors;", Cond.methodLink RX6 218 yX3_beginAnew, Cond.instanceMethod yX3_beginAnew, Cond.selects RX3 yX3_beginAnew yX3_beginAnew]
def wsX6_power_r2 : List Cond := [Cond.initialized RX3, Cond.code yX3_beginAnew cX3_beginAnew 1 none, Cond.fieldLink RX3 22 "CellKeeper$Chip" "status" "I", Cond.fieldLink RX3 26 "CellKeeper$Chip" "used" "I", Cond.fieldLink RX3 29 "CellKeeper$Chip" "age" "I", Cond.constantDouble RX3 32 (4626322717216342016), Cond.fieldLink RX3 34 "CellKeeper$Chip" "degrees" "D", Cond.fieldLink RX3 38 "CellKeeper$Chip" "bleeds" "I", Cond.methodLink RX6 219 yX0_beginAnew, Cond.instanceMethod yX0_beginAnew, Cond.selects RX0 yX0_beginAnew yX0_beginAnew, Cond.initialized RX0, Cond.code yX0_beginAnew cX0_beginAnew 2 none, Cond.fieldLink RX0 9 "CellKeeper$Alarms" "counts" "[I", Cond.fieldLink RX0 17 "CellKeeper$Alarms" "latched" "I", Cond.fieldLink RX0 20 "CellKeeper$Alarms" "fresh" "Z", Cond.methodLink RX6 220 yX4_beginAnew, Cond.instanceMethod yX4_beginAnew, Cond.selects RX4 yX4_beginAnew yX4_beginAnew, Cond.initialized RX4, Cond.code yX4_beginAnew cX4_beginAnew 1 none, Cond.fieldLink RX4 9 "CellKeeper$Contactors" "state" "I", Cond.fieldLink RX4 13 "CellKeeper$Contactors" "ticks" "I", Cond.methodLink RX6 221 yX1_beginAnew]
def wsX6_power_r3 : List Cond := [Cond.instanceMethod yX1_beginAnew, Cond.selects RX1 yX1_beginAnew yX1_beginAnew, Cond.initialized RX1, Cond.code yX1_beginAnew cX1_beginAnew 1 none, Cond.fieldLink RX1 20 "CellKeeper$Blocks" "next" "I", Cond.fieldLink RX1 23 "CellKeeper$Blocks" "limit" "I", Cond.methodLink RX6 124 yX1_newestPlace, Cond.instanceMethod yX1_newestPlace, Cond.selects RX1 yX1_newestPlace yX1_newestPlace, Cond.code yX1_newestPlace cX1_newestPlace 3 (some .int), Cond.fieldLink RX1 13 "CellKeeper$Blocks" "places" "I", Cond.methodLink RX1 48 yX1_isGood, Cond.instanceMethod yX1_isGood, Cond.selects RX1 yX1_isGood yX1_isGood, Cond.code yX1_isGood cX1_isGood 4 (some .boolean), Cond.constant RX1 55 (1000000000), Cond.fieldLink RX1 17 "CellKeeper$Blocks" "bytes" "[B", Cond.methodLink RX1 52 yX1_numberAt, Cond.instanceMethod yX1_numberAt, Cond.selects RX1 yX1_numberAt yX1_numberAt, Cond.code yX1_numberAt cX1_numberAt 2 (some .int), Cond.methodLink RX1 56 yX1_fetch, Cond.instanceMethod yX1_fetch, Cond.selects RX1 yX1_fetch yX1_fetch]
def wsX6_power_r4 : List Cond := [Cond.code yX1_fetch cX1_fetch 6 (some .long), Cond.constantLong RX1 46 (255), Cond.methodLink RX1 36 yX1_placeOf, Cond.instanceMethod yX1_placeOf, Cond.selects RX1 yX1_placeOf yX1_placeOf, Cond.code yX1_placeOf cX1_placeOf 2 (some .int), Cond.methodLink RX1 40 yJ9_floorMod_7cf53, Cond.static yJ9_floorMod_7cf53, Cond.initialized RJ9, Cond.code yJ9_floorMod_7cf53 cJ9_floorMod_7cf53 3 (some .int), Cond.methodLink RX1 30 yX2_ofRow, Cond.static yX2_ofRow, Cond.initialized RX2, Cond.code yX2_ofRow cX2_ofRow 6 (some .int), Cond.methodLink RX2 13 Lib.Math.min.name, Cond.static Lib.Math.min.name, Cond.initialized "java/lang/Math", Cond.code Lib.Math.min.name Lib.Math.min.code 2 (some .int), Cond.methodLink RX2 18 Lib.Math.max.name, Cond.static Lib.Math.max.name, Cond.code Lib.Math.max.name Lib.Math.max.code 2 (some .int), Cond.methodLink RX2 7 yX2_withByte, Cond.static yX2_withByte, Cond.code yX2_withByte cX2_withByte 5 (some .int)]
def wsX6_power_r5 : List Cond := [Cond.methodLink RX6 128 yX1_numberAt, Cond.methodLink RX6 135 yX1_timeAt, Cond.instanceMethod yX1_timeAt, Cond.selects RX1 yX1_timeAt yX1_timeAt, Cond.code yX1_timeAt cX1_timeAt 2 (some .int), Cond.methodLink RX6 141 yX1_partsAt, Cond.instanceMethod yX1_partsAt, Cond.selects RX1 yX1_partsAt yX1_partsAt, Cond.code yX1_partsAt cX1_partsAt 2 (some .long), Cond.methodLink RX6 145 yX6_chargeOfParts, Cond.instanceMethod yX6_chargeOfParts, Cond.selects RX6 yX6_chargeOfParts yX6_chargeOfParts, Cond.code yX6_chargeOfParts cX6_chargeOfParts 5 (some .double), Cond.fieldLink RX6 20 "CellKeeper" "capacity" "I", Cond.constantLong RX6 222 (8192), Cond.methodLink RX6 224 Lib.MathLoose.min_long.x, Cond.static Lib.MathLoose.min_long.x, Cond.code Lib.MathLoose.min_long.x Lib.MathLoose.min_long.code 4 (some .long), Cond.methodLink RX6 227 Lib.MathLoose.max_long.x, Cond.static Lib.MathLoose.max_long.x, Cond.code Lib.MathLoose.max_long.x Lib.MathLoose.max_long.code 4 (some .long), Cond.constantDouble RX6 229 (4665729213955833856), Cond.methodLink RX6 149 yX1_faultsAt, Cond.instanceMethod yX1_faultsAt]
def wsX6_power_r6 : List Cond := [Cond.selects RX1 yX1_faultsAt yX1_faultsAt, Cond.code yX1_faultsAt cX1_faultsAt 2 (some .int)]
def wsX6_power : List Cond := .code yX6_power cX6_power 2 (some .int) :: ((wsX6_power_r1 ++ (wsX6_power_r2 ++ (wsX6_power_r3 ++ (wsX6_power_r4 ++ (wsX6_power_r5 ++ wsX6_power_r6))))) ++ wsX60 ++ wsX10 ++ wsX00 ++ wsX30 ++ wsX40)
def wsX6_off : List Cond := .code yX6_off cX6_off 1 (some .boolean) :: ([.fieldLink RX6 104 "CellKeeper" "dark" "Z"] ++ wsX60)
def wsX6_time : List Cond := .code yX6_time cX6_time 1 (some .int) :: ([.fieldLink RX6 138 "CellKeeper" "time" "I", .methodLink RX6 69 yX6_needPower, .instanceMethod yX6_needPower, .selects RX6 yX6_needPower yX6_needPower, .initialized RX6, .code yX6_needPower cX6_needPower 1 none, .classLink RX6 194 "java/lang/IllegalStateException", .initialized "java/lang/IllegalStateException", .fieldLink RX6 104 "CellKeeper" "dark" "Z"] ++ wsX60 ++ (vx_atS RX6 198 "java/lang/IllegalStateException" ["java/lang/RuntimeException", "java/lang/Exception"]).filter goodWord)
def wsX6_charge : List Cond := .code yX6_charge cX6_charge 1 (some .double) :: ([.fieldLink RX6 101 "CellKeeper" "charge" "D", .methodLink RX6 69 yX6_needPower, .instanceMethod yX6_needPower, .selects RX6 yX6_needPower yX6_needPower, .initialized RX6, .code yX6_needPower cX6_needPower 1 none, .classLink RX6 194 "java/lang/IllegalStateException", .initialized "java/lang/IllegalStateException", .fieldLink RX6 104 "CellKeeper" "dark" "Z"] ++ wsX60 ++ (vx_atS RX6 198 "java/lang/IllegalStateException" ["java/lang/RuntimeException", "java/lang/Exception"]).filter goodWord)
def wsX6_percent : List Cond := .code yX6_percent cX6_percent 1 (some .int) :: ([.constantDouble RX6 155 (4636737291354636288), .fieldLink RX6 101 "CellKeeper" "charge" "D", .methodLink RX6 69 yX6_needPower, .instanceMethod yX6_needPower, .selects RX6 yX6_needPower yX6_needPower, .initialized RX6, .code yX6_needPower cX6_needPower 1 none, .classLink RX6 194 "java/lang/IllegalStateException", .initialized "java/lang/IllegalStateException", .fieldLink RX6 104 "CellKeeper" "dark" "Z", .methodLink RX6 157 yX6_wholeCapacities, .instanceMethod yX6_wholeCapacities, .selects RX6 yX6_wholeCapacities yX6_wholeCapacities, .code yX6_wholeCapacities cX6_wholeCapacities 4 (some .int), .fieldLink RX6 20 "CellKeeper" "capacity" "I"] ++ wsX60 ++ (vx_atS RX6 198 "java/lang/IllegalStateException" ["java/lang/RuntimeException", "java/lang/Exception"]).filter goodWord)
def wsX6_through : List Cond := .code yX6_through cX6_through 1 (some .double) :: ([.fieldLink RX6 161 "CellKeeper" "through" "D", .methodLink RX6 69 yX6_needPower, .instanceMethod yX6_needPower, .selects RX6 yX6_needPower yX6_needPower, .initialized RX6, .code yX6_needPower cX6_needPower 1 none, .classLink RX6 194 "java/lang/IllegalStateException", .initialized "java/lang/IllegalStateException", .fieldLink RX6 104 "CellKeeper" "dark" "Z"] ++ wsX60 ++ (vx_atS RX6 198 "java/lang/IllegalStateException" ["java/lang/RuntimeException", "java/lang/Exception"]).filter goodWord)
def wsX6_allowed : List Cond := .code yX6_allowed cX6_allowed 2 (some .double) :: ([.fieldLink RX6 164 "CellKeeper" "mayTake" "D", .fieldLink RX6 167 "CellKeeper" "mayGive" "D", .methodLink RX6 69 yX6_needPower, .instanceMethod yX6_needPower, .selects RX6 yX6_needPower yX6_needPower, .initialized RX6, .code yX6_needPower cX6_needPower 1 none, .classLink RX6 194 "java/lang/IllegalStateException", .initialized "java/lang/IllegalStateException", .fieldLink RX6 104 "CellKeeper" "dark" "Z"] ++ wsX60 ++ (vx_atS RX6 198 "java/lang/IllegalStateException" ["java/lang/RuntimeException", "java/lang/Exception"]).filter goodWord)
def wsX6_valid_r1 : List Cond := [Cond.fieldLink RX6 15 "CellKeeper" "chain" "[LCellKeeper$Chip;", Cond.methodLink RX6 66 yX6_needChip, Cond.instanceMethod yX6_needChip, Cond.selects RX6 yX6_needChip yX6_needChip, Cond.initialized RX6, Cond.code yX6_needChip cX6_needChip 2 none, Cond.methodLink RX6 113 yX6_needIndex, Cond.static yX6_needIndex, Cond.code yX6_needIndex cX6_needIndex 2 none, Cond.classLink RX6 201 "java/lang/IndexOutOfBoundsException", Cond.initialized "java/lang/IndexOutOfBoundsException", Cond.methodLink RX6 69 yX6_needPower, Cond.instanceMethod yX6_needPower, Cond.selects RX6 yX6_needPower yX6_needPower, Cond.code yX6_needPower cX6_needPower 1 none, Cond.classLink RX6 194 "java/lang/IllegalStateException", Cond.initialized "java/lang/IllegalStateException", Cond.fieldLink RX6 104 "CellKeeper" "dark" "Z", Cond.methodLink RX6 170 yX3_isValid, Cond.instanceMethod yX3_isValid, Cond.selects RX3 yX3_isValid yX3_isValid, Cond.initialized RX3, Cond.code yX3_isValid cX3_isValid 2 (some .boolean), Cond.fieldLink RX3 9 "CellKeeper$Chip" "numbers" "[I"]
def wsX6_valid_r2 : List Cond := [Cond.fieldLink RX3 22 "CellKeeper$Chip" "status" "I", Cond.methodLink RX3 53 yX3_isStale, Cond.instanceMethod yX3_isStale, Cond.selects RX3 yX3_isStale yX3_isStale, Cond.code yX3_isStale cX3_isStale 1 (some .boolean), Cond.fieldLink RX3 26 "CellKeeper$Chip" "used" "I", Cond.fieldLink RX3 29 "CellKeeper$Chip" "age" "I", Cond.methodLink RX3 57 yX3_isStuck, Cond.instanceMethod yX3_isStuck, Cond.selects RX3 yX3_isStuck yX3_isStuck, Cond.code yX3_isStuck cX3_isStuck 2 (some .boolean), Cond.fieldLink RX3 15 "CellKeeper$Chip" "alike" "[I", Cond.methodLink RX3 61 yX3_currentsSwing, Cond.instanceMethod yX3_currentsSwing, Cond.selects RX3 yX3_currentsSwing yX3_currentsSwing, Cond.code yX3_currentsSwing cX3_currentsSwing 10 (some .boolean), Cond.fieldLink RX3 18 "CellKeeper$Chip" "currents" "[D", Cond.constantDouble RX3 64 (4620693217682128896)]
def wsX6_valid : List Cond := .code yX6_valid cX6_valid 3 (some .boolean) :: ((wsX6_valid_r1 ++ wsX6_valid_r2) ++ wsX60 ++ wsX30 ++ (vx_atS RX6 205 "java/lang/IndexOutOfBoundsException" ["java/lang/RuntimeException", "java/lang/Exception"]).filter goodWord ++ (vx_atS RX6 198 "java/lang/IllegalStateException" ["java/lang/RuntimeException", "java/lang/Exception"]).filter goodWord)
def wsX6_bleeding : List Cond := .code yX6_bleeding cX6_bleeding 2 (some .int) :: ([.fieldLink RX6 15 "CellKeeper" "chain" "[LCellKeeper$Chip;", .fieldLink RX6 174 "CellKeeper$Chip" "bleeds" "I", .methodLink RX6 66 yX6_needChip, .instanceMethod yX6_needChip, .selects RX6 yX6_needChip yX6_needChip, .initialized RX6, .code yX6_needChip cX6_needChip 2 none, .methodLink RX6 113 yX6_needIndex, .static yX6_needIndex, .code yX6_needIndex cX6_needIndex 2 none, .classLink RX6 201 "java/lang/IndexOutOfBoundsException", .initialized "java/lang/IndexOutOfBoundsException", .methodLink RX6 69 yX6_needPower, .instanceMethod yX6_needPower, .selects RX6 yX6_needPower yX6_needPower, .code yX6_needPower cX6_needPower 1 none, .classLink RX6 194 "java/lang/IllegalStateException", .initialized "java/lang/IllegalStateException", .fieldLink RX6 104 "CellKeeper" "dark" "Z"] ++ wsX60 ++ wsX30 ++ (vx_atS RX6 205 "java/lang/IndexOutOfBoundsException" ["java/lang/RuntimeException", "java/lang/Exception"]).filter goodWord ++ (vx_atS RX6 198 "java/lang/IllegalStateException" ["java/lang/RuntimeException", "java/lang/Exception"]).filter goodWord)
def wsX6_faults : List Cond := .code yX6_faults cX6_faults 1 (some .int) :: ([.fieldLink RX6 39 "CellKeeper" "alarms" "LCellKeeper$Alarms;", .fieldLink RX6 152 "CellKeeper$Alarms" "latched" "I", .methodLink RX6 69 yX6_needPower, .instanceMethod yX6_needPower, .selects RX6 yX6_needPower yX6_needPower, .initialized RX6, .code yX6_needPower cX6_needPower 1 none, .classLink RX6 194 "java/lang/IllegalStateException", .initialized "java/lang/IllegalStateException", .fieldLink RX6 104 "CellKeeper" "dark" "Z"] ++ wsX60 ++ wsX00 ++ (vx_atS RX6 198 "java/lang/IllegalStateException" ["java/lang/RuntimeException", "java/lang/Exception"]).filter goodWord)
def wsX6_count : List Cond := .code yX6_count cX6_count 2 (some .int) :: ([.fieldLink RX6 39 "CellKeeper" "alarms" "LCellKeeper$Alarms;", .fieldLink RX6 177 "CellKeeper$Alarms" "counts" "[I", .methodLink RX6 113 yX6_needIndex, .static yX6_needIndex, .initialized RX6, .code yX6_needIndex cX6_needIndex 2 none, .classLink RX6 201 "java/lang/IndexOutOfBoundsException", .initialized "java/lang/IndexOutOfBoundsException", .methodLink RX6 69 yX6_needPower, .instanceMethod yX6_needPower, .selects RX6 yX6_needPower yX6_needPower, .code yX6_needPower cX6_needPower 1 none, .classLink RX6 194 "java/lang/IllegalStateException", .initialized "java/lang/IllegalStateException", .fieldLink RX6 104 "CellKeeper" "dark" "Z"] ++ wsX60 ++ wsX00 ++ (vx_atS RX6 205 "java/lang/IndexOutOfBoundsException" ["java/lang/RuntimeException", "java/lang/Exception"]).filter goodWord ++ (vx_atS RX6 198 "java/lang/IllegalStateException" ["java/lang/RuntimeException", "java/lang/Exception"]).filter goodWord)
def wsX6_journal : List Cond := .code yX6_journal cX6_journal 2 (some .int) :: ([.fieldLink RX6 53 "CellKeeper" "blocks" "LCellKeeper$Blocks;", .fieldLink RX6 181 "CellKeeper$Blocks" "bytes" "[B", .methodLink RX6 113 yX6_needIndex, .static yX6_needIndex, .initialized RX6, .code yX6_needIndex cX6_needIndex 2 none, .classLink RX6 201 "java/lang/IndexOutOfBoundsException", .initialized "java/lang/IndexOutOfBoundsException"] ++ wsX60 ++ wsX10 ++ (vx_atS RX6 205 "java/lang/IndexOutOfBoundsException" ["java/lang/RuntimeException", "java/lang/Exception"]).filter goodWord)
def wsX6_spoil : List Cond := .code yX6_spoil cX6_spoil 3 none :: ([.fieldLink RX6 53 "CellKeeper" "blocks" "LCellKeeper$Blocks;", .fieldLink RX6 181 "CellKeeper$Blocks" "bytes" "[B", .methodLink RX6 113 yX6_needIndex, .static yX6_needIndex, .initialized RX6, .code yX6_needIndex cX6_needIndex 2 none, .classLink RX6 201 "java/lang/IndexOutOfBoundsException", .initialized "java/lang/IndexOutOfBoundsException", .methodLink RX6 90 yX6_needWhole, .static yX6_needWhole, .code yX6_needWhole cX6_needWhole 3 none, .classLink RX6 206 "java/lang/IllegalArgumentException", .initialized "java/lang/IllegalArgumentException"] ++ wsX60 ++ wsX10 ++ (vx_atS RX6 205 "java/lang/IndexOutOfBoundsException" ["java/lang/RuntimeException", "java/lang/Exception"]).filter goodWord ++ (vx_atS RX6 210 "java/lang/IllegalArgumentException" ["java/lang/RuntimeException", "java/lang/Exception"]).filter goodWord)
def wsX7_nearest : List Cond := .code yX7_nearest cX7_nearest 3 (some .int) :: ([])
def wsX7_checked : List Cond := .code yX7_checked cX7_checked 5 (some .int) :: ([])
def wsX7_number : List Cond := .code yX7_number cX7_number 6 (some .long) :: ([.fieldLink RX7 7 "CellKeeperModel" "journal" "[I"] ++ wsX70)
def wsX7_isRight : List Cond := .code yX7_isRight cX7_isRight 5 (some .boolean) :: ([.fieldLink RX7 7 "CellKeeperModel" "journal" "[I", .constantLong RX7 285 (1000000000), .fieldLink RX7 52 "CellKeeperModel" "blocks" "I", .methodLink RX7 77 yX7_checked, .static yX7_checked, .initialized RX7, .code yX7_checked cX7_checked 5 (some .int), .methodLink RX7 281 yX7_number, .instanceMethod yX7_number, .selects RX7 yX7_number yX7_number, .code yX7_number cX7_number 6 (some .long)] ++ wsX70)
def wsX7_begin_r1 : List Cond := [Cond.fieldLink RX7 85 "CellKeeperModel" "off" "Z", Cond.fieldLink RX7 253 "CellKeeperModel" "time" "I", Cond.fieldLink RX7 112 "CellKeeperModel" "charge" "J", Cond.fieldLink RX7 144 "CellKeeperModel" "through" "J", Cond.fieldLink RX7 92 "CellKeeperModel" "current" "J", Cond.fieldLink RX7 106 "CellKeeperModel" "bus" "I", Cond.fieldLink RX7 109 "CellKeeperModel" "wanted" "Z", Cond.fieldLink RX7 155 "CellKeeperModel" "rest" "I", Cond.fieldLink RX7 205 "CellKeeperModel" "given" "J", Cond.fieldLink RX7 210 "CellKeeperModel" "taken" "J", Cond.fieldLink RX7 224 "CellKeeperModel" "faults" "I", Cond.fieldLink RX7 234 "CellKeeperModel" "state" "I", Cond.fieldLink RX7 237 "CellKeeperModel" "stateTicks" "I", Cond.fieldLink RX7 41 "CellKeeperModel" "cut" "I", Cond.fieldLink RX7 256 "CellKeeperModel" "next" "I", Cond.fieldLink RX7 35 "CellKeeperModel" "counts" "[I", Cond.fieldLink RX7 16 "CellKeeperModel" "warm" "[J", Cond.constantLong RX7 287 (160), Cond.fieldLink RX7 29 "CellKeeperModel" "used" "[I", Cond.fieldLink RX7 32 "CellKeeperModel" "age" "[I", Cond.fieldLink RX7 38 "CellKeeperModel" "bleeding" "[I", Cond.fieldLink RX7 52 "CellKeeperModel" "blocks" "I", Cond.constantLong RX7 140 (8192), Cond.fieldLink RX7 57 "CellKeeperModel" "capacity" "J"]
def wsX7_begin_r2 : List Cond := [Cond.methodLink RX7 289 yX7_isRight, Cond.instanceMethod yX7_isRight, Cond.selects RX7 yX7_isRight yX7_isRight, Cond.initialized RX7, Cond.code yX7_isRight cX7_isRight 5 (some .boolean), Cond.fieldLink RX7 7 "CellKeeperModel" "journal" "[I", Cond.constantLong RX7 285 (1000000000), Cond.methodLink RX7 77 yX7_checked, Cond.static yX7_checked, Cond.code yX7_checked cX7_checked 5 (some .int), Cond.methodLink RX7 281 yX7_number, Cond.instanceMethod yX7_number, Cond.selects RX7 yX7_number yX7_number, Cond.code yX7_number cX7_number 6 (some .long)]
def wsX7_begin : List Cond := .code yX7_begin cX7_begin 3 none :: ((wsX7_begin_r1 ++ wsX7_begin_r2) ++ wsX70)
def wsX7_init_r1 : List Cond := [Cond.methodLink RX7 1 objectInit, Cond.instanceMethod objectInit, Cond.code objectInit ⟨#[0xb1]⟩ 1 none, Cond.arrayClass .int, Cond.fieldLink RX7 7 "CellKeeperModel" "journal" "[I", Cond.fieldLink RX7 13 "CellKeeperModel" "block" "[I", Cond.arrayClass .long, Cond.fieldLink RX7 16 "CellKeeperModel" "warm" "[J", Cond.fieldLink RX7 20 "CellKeeperModel" "numbers" "[I", Cond.fieldLink RX7 23 "CellKeeperModel" "currents" "[J", Cond.fieldLink RX7 26 "CellKeeperModel" "status" "[I", Cond.fieldLink RX7 29 "CellKeeperModel" "used" "[I", Cond.fieldLink RX7 32 "CellKeeperModel" "age" "[I", Cond.fieldLink RX7 35 "CellKeeperModel" "counts" "[I", Cond.fieldLink RX7 38 "CellKeeperModel" "bleeding" "[I", Cond.fieldLink RX7 41 "CellKeeperModel" "cut" "I", Cond.fieldLink RX7 49 "CellKeeperModel" "chips" "I", Cond.fieldLink RX7 52 "CellKeeperModel" "blocks" "I", Cond.constantLong RX7 55 (100), Cond.fieldLink RX7 57 "CellKeeperModel" "capacity" "J", Cond.fieldLink RX7 61 "CellKeeperModel" "debounce" "I", Cond.fieldLink RX7 64 "CellKeeperModel" "every" "I", Cond.methodLink RX7 45 yX7_nearest, Cond.static yX7_nearest]
def wsX7_init_r2 : List Cond := [Cond.initialized RX7, Cond.code yX7_nearest cX7_nearest 3 (some .int), Cond.methodLink RX7 67 yX7_begin, Cond.instanceMethod yX7_begin, Cond.selects RX7 yX7_begin yX7_begin, Cond.code yX7_begin cX7_begin 3 none, Cond.fieldLink RX7 85 "CellKeeperModel" "off" "Z", Cond.fieldLink RX7 253 "CellKeeperModel" "time" "I", Cond.fieldLink RX7 112 "CellKeeperModel" "charge" "J", Cond.fieldLink RX7 144 "CellKeeperModel" "through" "J", Cond.fieldLink RX7 92 "CellKeeperModel" "current" "J", Cond.fieldLink RX7 106 "CellKeeperModel" "bus" "I", Cond.fieldLink RX7 109 "CellKeeperModel" "wanted" "Z", Cond.fieldLink RX7 155 "CellKeeperModel" "rest" "I", Cond.fieldLink RX7 205 "CellKeeperModel" "given" "J", Cond.fieldLink RX7 210 "CellKeeperModel" "taken" "J", Cond.fieldLink RX7 224 "CellKeeperModel" "faults" "I", Cond.fieldLink RX7 234 "CellKeeperModel" "state" "I", Cond.fieldLink RX7 237 "CellKeeperModel" "stateTicks" "I", Cond.fieldLink RX7 256 "CellKeeperModel" "next" "I", Cond.constantLong RX7 287 (160), Cond.constantLong RX7 140 (8192), Cond.methodLink RX7 289 yX7_isRight, Cond.instanceMethod yX7_isRight]
def wsX7_init_r3 : List Cond := [Cond.selects RX7 yX7_isRight yX7_isRight, Cond.code yX7_isRight cX7_isRight 5 (some .boolean), Cond.constantLong RX7 285 (1000000000), Cond.methodLink RX7 77 yX7_checked, Cond.static yX7_checked, Cond.code yX7_checked cX7_checked 5 (some .int), Cond.methodLink RX7 281 yX7_number, Cond.instanceMethod yX7_number, Cond.selects RX7 yX7_number yX7_number, Cond.code yX7_number cX7_number 6 (some .long)]
def wsX7_init : List Cond := .code yX7_init cX7_init 6 none :: ((wsX7_init_r1 ++ (wsX7_init_r2 ++ wsX7_init_r3)) ++ wsX70)
def wsX7_thrown : List Cond := .code yX7_thrown cX7_thrown 1 (some .int) :: ([.fieldLink RX7 70 "CellKeeperModel" "thrown" "I"] ++ wsX70)
def wsX7_chips : List Cond := .code yX7_chips cX7_chips 1 (some .int) :: ([.fieldLink RX7 70 "CellKeeperModel" "thrown" "I", .fieldLink RX7 49 "CellKeeperModel" "chips" "I"] ++ wsX70)
def wsX7_byteOf : List Cond := .code yX7_byteOf cX7_byteOf 5 (some .int) :: ([])
def wsX7_sealOf : List Cond := .code yX7_sealOf cX7_sealOf 6 (some .int) :: ([.methodLink RX7 73 yX7_byteOf, .static yX7_byteOf, .initialized RX7, .code yX7_byteOf cX7_byteOf 5 (some .int), .methodLink RX7 77 yX7_checked, .static yX7_checked, .code yX7_checked cX7_checked 5 (some .int)])
def wsX7_seal : List Cond := .code yX7_seal cX7_seal 5 (some .int) :: ([.fieldLink RX7 70 "CellKeeperModel" "thrown" "I", .methodLink RX7 81 yX7_sealOf, .static yX7_sealOf, .initialized RX7, .code yX7_sealOf cX7_sealOf 6 (some .int), .methodLink RX7 73 yX7_byteOf, .static yX7_byteOf, .code yX7_byteOf cX7_byteOf 5 (some .int), .methodLink RX7 77 yX7_checked, .static yX7_checked, .code yX7_checked cX7_checked 5 (some .int)] ++ wsX70)
def wsX7_two : List Cond := .code yX7_two cX7_two 5 (some .int) :: ([.methodLink RX7 73 yX7_byteOf, .static yX7_byteOf, .initialized RX7, .code yX7_byteOf cX7_byteOf 5 (some .int)])
def wsX7_reply : List Cond := .code yX7_reply cX7_reply 8 (some .boolean) :: ([.fieldLink RX7 49 "CellKeeperModel" "chips" "I", .fieldLink RX7 85 "CellKeeperModel" "off" "Z", .fieldLink RX7 70 "CellKeeperModel" "thrown" "I", .fieldLink RX7 29 "CellKeeperModel" "used" "[I", .fieldLink RX7 20 "CellKeeperModel" "numbers" "[I", .fieldLink RX7 23 "CellKeeperModel" "currents" "[J", .fieldLink RX7 92 "CellKeeperModel" "current" "J", .fieldLink RX7 26 "CellKeeperModel" "status" "[I", .fieldLink RX7 32 "CellKeeperModel" "age" "[I", .methodLink RX7 89 yX7_two, .static yX7_two, .initialized RX7, .code yX7_two cX7_two 5 (some .int), .methodLink RX7 73 yX7_byteOf, .static yX7_byteOf, .code yX7_byteOf cX7_byteOf 5 (some .int), .methodLink RX7 81 yX7_sealOf, .static yX7_sealOf, .code yX7_sealOf cX7_sealOf 6 (some .int), .methodLink RX7 77 yX7_checked, .static yX7_checked, .code yX7_checked cX7_checked 5 (some .int)] ++ wsX70)
def wsX7_current : List Cond := .code yX7_current cX7_current 3 none :: ([.constantDouble RX7 95 (13879882945323335680), .constantDouble RX7 97 (4656510908468559872), .fieldLink RX7 85 "CellKeeperModel" "off" "Z", .fieldLink RX7 70 "CellKeeperModel" "thrown" "I", .fieldLink RX7 92 "CellKeeperModel" "current" "J", .constantDouble RX7 99 (4620693217682128896)] ++ wsX70)
def wsX7_warm : List Cond := .code yX7_warm cX7_warm 4 none :: ([.fieldLink RX7 49 "CellKeeperModel" "chips" "I", .constantDouble RX7 101 (13860109328209412096), .constantDouble RX7 103 (4641240890982006784), .fieldLink RX7 85 "CellKeeperModel" "off" "Z", .fieldLink RX7 70 "CellKeeperModel" "thrown" "I", .fieldLink RX7 16 "CellKeeperModel" "warm" "[J", .constantDouble RX7 99 (4620693217682128896)] ++ wsX70)
def wsX7_bus : List Cond := .code yX7_bus cX7_bus 2 none :: ([.constant RX7 105 (1000000), .fieldLink RX7 85 "CellKeeperModel" "off" "Z", .fieldLink RX7 70 "CellKeeperModel" "thrown" "I", .fieldLink RX7 106 "CellKeeperModel" "bus" "I"] ++ wsX70)
def wsX7_want : List Cond := .code yX7_want cX7_want 2 none :: ([.fieldLink RX7 85 "CellKeeperModel" "off" "Z", .fieldLink RX7 70 "CellKeeperModel" "thrown" "I", .fieldLink RX7 109 "CellKeeperModel" "wanted" "Z"] ++ wsX70)
def wsX7_set : List Cond := .code yX7_set cX7_set 3 none :: ([.fieldLink RX7 57 "CellKeeperModel" "capacity" "J", .fieldLink RX7 85 "CellKeeperModel" "off" "Z", .fieldLink RX7 70 "CellKeeperModel" "thrown" "I", .fieldLink RX7 112 "CellKeeperModel" "charge" "J", .constantDouble RX7 115 (4665729213955833856)] ++ wsX70)
def wsX7_isStale : List Cond := .code yX7_isStale cX7_isStale 2 (some .boolean) :: ([.fieldLink RX7 29 "CellKeeperModel" "used" "[I", .fieldLink RX7 32 "CellKeeperModel" "age" "[I"] ++ wsX70)
def wsX7_numberOf : List Cond := .code yX7_numberOf cX7_numberOf 5 (some .int) :: ([.fieldLink RX7 29 "CellKeeperModel" "used" "[I", .fieldLink RX7 20 "CellKeeperModel" "numbers" "[I"] ++ wsX70)
def wsX7_isStuck : List Cond := .code yX7_isStuck cX7_isStuck 11 (some .boolean) :: ([.fieldLink RX7 29 "CellKeeperModel" "used" "[I", .fieldLink RX7 23 "CellKeeperModel" "currents" "[J", .constantLong RX7 120 (64), .methodLink RX7 117 yX7_numberOf, .instanceMethod yX7_numberOf, .selects RX7 yX7_numberOf yX7_numberOf, .initialized RX7, .code yX7_numberOf cX7_numberOf 5 (some .int), .fieldLink RX7 20 "CellKeeperModel" "numbers" "[I"] ++ wsX70)
def wsX7_isValid : List Cond := .code yX7_isValid cX7_isValid 4 (some .boolean) :: ([.fieldLink RX7 26 "CellKeeperModel" "status" "[I", .methodLink RX7 122 yX7_isStale, .instanceMethod yX7_isStale, .selects RX7 yX7_isStale yX7_isStale, .initialized RX7, .code yX7_isStale cX7_isStale 2 (some .boolean), .fieldLink RX7 29 "CellKeeperModel" "used" "[I", .fieldLink RX7 32 "CellKeeperModel" "age" "[I", .methodLink RX7 117 yX7_numberOf, .instanceMethod yX7_numberOf, .selects RX7 yX7_numberOf yX7_numberOf, .code yX7_numberOf cX7_numberOf 5 (some .int), .fieldLink RX7 20 "CellKeeperModel" "numbers" "[I", .methodLink RX7 126 yX7_isStuck, .instanceMethod yX7_isStuck, .selects RX7 yX7_isStuck yX7_isStuck, .code yX7_isStuck cX7_isStuck 11 (some .boolean), .fieldLink RX7 23 "CellKeeperModel" "currents" "[J", .constantLong RX7 120 (64)] ++ wsX70)
def wsX7_areAllValid : List Cond := .code yX7_areAllValid cX7_areAllValid 3 (some .boolean) :: ([.fieldLink RX7 49 "CellKeeperModel" "chips" "I", .methodLink RX7 130 yX7_isValid, .instanceMethod yX7_isValid, .selects RX7 yX7_isValid yX7_isValid, .initialized RX7, .code yX7_isValid cX7_isValid 4 (some .boolean), .fieldLink RX7 26 "CellKeeperModel" "status" "[I", .methodLink RX7 122 yX7_isStale, .instanceMethod yX7_isStale, .selects RX7 yX7_isStale yX7_isStale, .code yX7_isStale cX7_isStale 2 (some .boolean), .fieldLink RX7 29 "CellKeeperModel" "used" "[I", .fieldLink RX7 32 "CellKeeperModel" "age" "[I", .methodLink RX7 117 yX7_numberOf, .instanceMethod yX7_numberOf, .selects RX7 yX7_numberOf yX7_numberOf, .code yX7_numberOf cX7_numberOf 5 (some .int), .fieldLink RX7 20 "CellKeeperModel" "numbers" "[I", .methodLink RX7 126 yX7_isStuck, .instanceMethod yX7_isStuck, .selects RX7 yX7_isStuck yX7_isStuck, .code yX7_isStuck cX7_isStuck 11 (some .boolean), .fieldLink RX7 23 "CellKeeperModel" "currents" "[J", .constantLong RX7 120 (64)] ++ wsX70)
def wsX7_sum : List Cond := .code yX7_sum cX7_sum 3 (some .int) :: ([.fieldLink RX7 49 "CellKeeperModel" "chips" "I", .methodLink RX7 130 yX7_isValid, .instanceMethod yX7_isValid, .selects RX7 yX7_isValid yX7_isValid, .initialized RX7, .code yX7_isValid cX7_isValid 4 (some .boolean), .fieldLink RX7 26 "CellKeeperModel" "status" "[I", .methodLink RX7 122 yX7_isStale, .instanceMethod yX7_isStale, .selects RX7 yX7_isStale yX7_isStale, .code yX7_isStale cX7_isStale 2 (some .boolean), .fieldLink RX7 29 "CellKeeperModel" "used" "[I", .fieldLink RX7 32 "CellKeeperModel" "age" "[I", .methodLink RX7 117 yX7_numberOf, .instanceMethod yX7_numberOf, .selects RX7 yX7_numberOf yX7_numberOf, .code yX7_numberOf cX7_numberOf 5 (some .int), .fieldLink RX7 20 "CellKeeperModel" "numbers" "[I", .methodLink RX7 126 yX7_isStuck, .instanceMethod yX7_isStuck, .selects RX7 yX7_isStuck yX7_isStuck, .code yX7_isStuck cX7_isStuck 11 (some .boolean), .fieldLink RX7 23 "CellKeeperModel" "currents" "[J", .constantLong RX7 120 (64)] ++ wsX70)
def wsX7_knot : List Cond := .code yX7_knot cX7_knot 1 (some .int) :: ([])
def wsX7_share : List Cond := .code yX7_share cX7_share 1 (some .int) :: ([])
def wsX7_told : List Cond := .code yX7_told cX7_told 2 (some .int) :: ([.methodLink RX7 133 yX7_knot, .static yX7_knot, .initialized RX7, .code yX7_knot cX7_knot 1 (some .int), .methodLink RX7 137 yX7_share, .static yX7_share, .code yX7_share cX7_share 1 (some .int)])
def wsX7_sizeOf : List Cond := .code yX7_sizeOf cX7_sizeOf 2 (some .long) :: ([])
def wsX7_countCharge_r1 : List Cond := [Cond.constantLong RX7 140 (8192), Cond.fieldLink RX7 57 "CellKeeperModel" "capacity" "J", Cond.fieldLink RX7 112 "CellKeeperModel" "charge" "J", Cond.constantLong RX7 142 (1024), Cond.fieldLink RX7 92 "CellKeeperModel" "current" "J", Cond.fieldLink RX7 144 "CellKeeperModel" "through" "J", Cond.constantLong RX7 151 (80000), Cond.constantLong RX7 153 (4), Cond.fieldLink RX7 155 "CellKeeperModel" "rest" "I", Cond.constantLong RX7 162 (8), Cond.fieldLink RX7 49 "CellKeeperModel" "chips" "I", Cond.methodLink RX7 147 yX7_sizeOf, Cond.static yX7_sizeOf, Cond.initialized RX7, Cond.code yX7_sizeOf cX7_sizeOf 2 (some .long), Cond.methodLink RX7 158 yX7_areAllValid, Cond.instanceMethod yX7_areAllValid, Cond.selects RX7 yX7_areAllValid yX7_areAllValid, Cond.code yX7_areAllValid cX7_areAllValid 3 (some .boolean), Cond.methodLink RX7 130 yX7_isValid, Cond.instanceMethod yX7_isValid, Cond.selects RX7 yX7_isValid yX7_isValid, Cond.code yX7_isValid cX7_isValid 4 (some .boolean), Cond.fieldLink RX7 26 "CellKeeperModel" "status" "[I"]
def wsX7_countCharge_r2 : List Cond := [Cond.methodLink RX7 122 yX7_isStale, Cond.instanceMethod yX7_isStale, Cond.selects RX7 yX7_isStale yX7_isStale, Cond.code yX7_isStale cX7_isStale 2 (some .boolean), Cond.fieldLink RX7 29 "CellKeeperModel" "used" "[I", Cond.fieldLink RX7 32 "CellKeeperModel" "age" "[I", Cond.methodLink RX7 117 yX7_numberOf, Cond.instanceMethod yX7_numberOf, Cond.selects RX7 yX7_numberOf yX7_numberOf, Cond.code yX7_numberOf cX7_numberOf 5 (some .int), Cond.fieldLink RX7 20 "CellKeeperModel" "numbers" "[I", Cond.methodLink RX7 126 yX7_isStuck, Cond.instanceMethod yX7_isStuck, Cond.selects RX7 yX7_isStuck yX7_isStuck, Cond.code yX7_isStuck cX7_isStuck 11 (some .boolean), Cond.fieldLink RX7 23 "CellKeeperModel" "currents" "[J", Cond.constantLong RX7 120 (64), Cond.methodLink RX7 164 yX7_sum, Cond.instanceMethod yX7_sum, Cond.selects RX7 yX7_sum yX7_sum, Cond.code yX7_sum cX7_sum 3 (some .int), Cond.methodLink RX7 168 yX7_told, Cond.static yX7_told, Cond.code yX7_told cX7_told 2 (some .int)]
def wsX7_countCharge_r3 : List Cond := [Cond.methodLink RX7 133 yX7_knot, Cond.static yX7_knot, Cond.code yX7_knot cX7_knot 1 (some .int), Cond.methodLink RX7 137 yX7_share, Cond.static yX7_share, Cond.code yX7_share cX7_share 1 (some .int)]
def wsX7_countCharge : List Cond := .code yX7_countCharge cX7_countCharge 3 none :: ((wsX7_countCharge_r1 ++ (wsX7_countCharge_r2 ++ wsX7_countCharge_r3)) ++ wsX70)
def wsX7_floor : List Cond := .code yX7_floor cX7_floor 6 (some .long) :: ([])
def wsX7_hottest : List Cond := .code yX7_hottest cX7_hottest 4 (some .long) :: ([.fieldLink RX7 16 "CellKeeperModel" "warm" "[J", .fieldLink RX7 49 "CellKeeperModel" "chips" "I"] ++ wsX70)
def wsX7_coldest : List Cond := .code yX7_coldest cX7_coldest 4 (some .long) :: ([.fieldLink RX7 16 "CellKeeperModel" "warm" "[J", .fieldLink RX7 49 "CellKeeperModel" "chips" "I"] ++ wsX70)
def wsX7_full : List Cond := .code yX7_full cX7_full 3 (some .long) :: ([.constantLong RX7 162 (8), .constantLong RX7 140 (8192), .fieldLink RX7 57 "CellKeeperModel" "capacity" "J", .constantLong RX7 120 (64), .constantLong RX7 171 (512), .methodLink RX7 173 yX7_floor, .static yX7_floor, .initialized RX7, .code yX7_floor cX7_floor 6 (some .long)] ++ wsX70)
def wsX7_least : List Cond := .code yX7_least cX7_least 8 (some .long) :: ([])
def wsX7_allow_r1 : List Cond := [Cond.constantLong RX7 184 (360), Cond.constantLong RX7 120 (64), Cond.constantLong RX7 186 (488), Cond.constantLong RX7 188 (2), Cond.constantLong RX7 190 (80), Cond.constantLong RX7 192 (-176), Cond.constantLong RX7 194 (176), Cond.constantLong RX7 153 (4), Cond.constantLong RX7 196 (300), Cond.fieldLink RX7 112 "CellKeeperModel" "charge" "J", Cond.fieldLink RX7 205 "CellKeeperModel" "given" "J", Cond.constantLong RX7 208 (150), Cond.constantLong RX7 140 (8192), Cond.fieldLink RX7 57 "CellKeeperModel" "capacity" "J", Cond.fieldLink RX7 210 "CellKeeperModel" "taken" "J", Cond.methodLink RX7 177 yX7_hottest, Cond.instanceMethod yX7_hottest, Cond.selects RX7 yX7_hottest yX7_hottest, Cond.initialized RX7, Cond.code yX7_hottest cX7_hottest 4 (some .long), Cond.fieldLink RX7 16 "CellKeeperModel" "warm" "[J", Cond.fieldLink RX7 49 "CellKeeperModel" "chips" "I", Cond.methodLink RX7 181 yX7_coldest, Cond.instanceMethod yX7_coldest]
def wsX7_allow_r2 : List Cond := [Cond.selects RX7 yX7_coldest yX7_coldest, Cond.code yX7_coldest cX7_coldest 4 (some .long), Cond.methodLink RX7 173 yX7_floor, Cond.static yX7_floor, Cond.code yX7_floor cX7_floor 6 (some .long), Cond.methodLink RX7 198 yX7_full, Cond.instanceMethod yX7_full, Cond.selects RX7 yX7_full yX7_full, Cond.code yX7_full cX7_full 3 (some .long), Cond.constantLong RX7 162 (8), Cond.constantLong RX7 171 (512), Cond.methodLink RX7 201 yX7_least, Cond.static yX7_least, Cond.code yX7_least cX7_least 8 (some .long)]
def wsX7_allow : List Cond := .code yX7_allow cX7_allow 9 none :: ((wsX7_allow_r1 ++ wsX7_allow_r2) ++ wsX70)
def wsX7_isSo_r1 : List Cond := [Cond.constantLong RX7 213 (480), Cond.constantLong RX7 215 (-240), Cond.constantLong RX7 162 (8), Cond.fieldLink RX7 92 "CellKeeperModel" "current" "J", Cond.fieldLink RX7 205 "CellKeeperModel" "given" "J", Cond.constantLong RX7 217 (640), Cond.constantLong RX7 219 (-8), Cond.fieldLink RX7 210 "CellKeeperModel" "taken" "J", Cond.fieldLink RX7 49 "CellKeeperModel" "chips" "I", Cond.methodLink RX7 177 yX7_hottest, Cond.instanceMethod yX7_hottest, Cond.selects RX7 yX7_hottest yX7_hottest, Cond.initialized RX7, Cond.code yX7_hottest cX7_hottest 4 (some .long), Cond.fieldLink RX7 16 "CellKeeperModel" "warm" "[J", Cond.methodLink RX7 181 yX7_coldest, Cond.instanceMethod yX7_coldest, Cond.selects RX7 yX7_coldest yX7_coldest, Cond.code yX7_coldest cX7_coldest 4 (some .long), Cond.methodLink RX7 122 yX7_isStale, Cond.instanceMethod yX7_isStale, Cond.selects RX7 yX7_isStale yX7_isStale, Cond.code yX7_isStale cX7_isStale 2 (some .boolean), Cond.fieldLink RX7 29 "CellKeeperModel" "used" "[I"]
def wsX7_isSo_r2 : List Cond := [Cond.fieldLink RX7 32 "CellKeeperModel" "age" "[I", Cond.methodLink RX7 130 yX7_isValid, Cond.instanceMethod yX7_isValid, Cond.selects RX7 yX7_isValid yX7_isValid, Cond.code yX7_isValid cX7_isValid 4 (some .boolean), Cond.fieldLink RX7 26 "CellKeeperModel" "status" "[I", Cond.methodLink RX7 117 yX7_numberOf, Cond.instanceMethod yX7_numberOf, Cond.selects RX7 yX7_numberOf yX7_numberOf, Cond.code yX7_numberOf cX7_numberOf 5 (some .int), Cond.fieldLink RX7 20 "CellKeeperModel" "numbers" "[I", Cond.methodLink RX7 126 yX7_isStuck, Cond.instanceMethod yX7_isStuck, Cond.selects RX7 yX7_isStuck yX7_isStuck, Cond.code yX7_isStuck cX7_isStuck 11 (some .boolean), Cond.fieldLink RX7 23 "CellKeeperModel" "currents" "[J", Cond.constantLong RX7 120 (64)]
def wsX7_isSo : List Cond := .code yX7_isSo cX7_isSo 7 (some .boolean) :: ((wsX7_isSo_r1 ++ wsX7_isSo_r2) ++ wsX70)
def wsX7_latch : List Cond := .code yX7_latch cX7_latch 2 none :: ([.fieldLink RX7 221 "CellKeeperModel" "fresh" "Z", .fieldLink RX7 224 "CellKeeperModel" "faults" "I"] ++ wsX70)
def wsX7_isSerious : List Cond := .code yX7_isSerious cX7_isSerious 1 (some .boolean) :: ([.fieldLink RX7 224 "CellKeeperModel" "faults" "I"] ++ wsX70)
def wsX7_causes_r1 : List Cond := [Cond.fieldLink RX7 35 "CellKeeperModel" "counts" "[I", Cond.fieldLink RX7 61 "CellKeeperModel" "debounce" "I", Cond.methodLink RX7 227 yX7_isSo, Cond.instanceMethod yX7_isSo, Cond.selects RX7 yX7_isSo yX7_isSo, Cond.initialized RX7, Cond.code yX7_isSo cX7_isSo 7 (some .boolean), Cond.constantLong RX7 213 (480), Cond.constantLong RX7 215 (-240), Cond.constantLong RX7 162 (8), Cond.fieldLink RX7 92 "CellKeeperModel" "current" "J", Cond.fieldLink RX7 205 "CellKeeperModel" "given" "J", Cond.constantLong RX7 217 (640), Cond.constantLong RX7 219 (-8), Cond.fieldLink RX7 210 "CellKeeperModel" "taken" "J", Cond.fieldLink RX7 49 "CellKeeperModel" "chips" "I", Cond.methodLink RX7 177 yX7_hottest, Cond.instanceMethod yX7_hottest, Cond.selects RX7 yX7_hottest yX7_hottest, Cond.code yX7_hottest cX7_hottest 4 (some .long), Cond.fieldLink RX7 16 "CellKeeperModel" "warm" "[J", Cond.methodLink RX7 181 yX7_coldest, Cond.instanceMethod yX7_coldest, Cond.selects RX7 yX7_coldest yX7_coldest]
def wsX7_causes_r2 : List Cond := [Cond.code yX7_coldest cX7_coldest 4 (some .long), Cond.methodLink RX7 122 yX7_isStale, Cond.instanceMethod yX7_isStale, Cond.selects RX7 yX7_isStale yX7_isStale, Cond.code yX7_isStale cX7_isStale 2 (some .boolean), Cond.fieldLink RX7 29 "CellKeeperModel" "used" "[I", Cond.fieldLink RX7 32 "CellKeeperModel" "age" "[I", Cond.methodLink RX7 130 yX7_isValid, Cond.instanceMethod yX7_isValid, Cond.selects RX7 yX7_isValid yX7_isValid, Cond.code yX7_isValid cX7_isValid 4 (some .boolean), Cond.fieldLink RX7 26 "CellKeeperModel" "status" "[I", Cond.methodLink RX7 117 yX7_numberOf, Cond.instanceMethod yX7_numberOf, Cond.selects RX7 yX7_numberOf yX7_numberOf, Cond.code yX7_numberOf cX7_numberOf 5 (some .int), Cond.fieldLink RX7 20 "CellKeeperModel" "numbers" "[I", Cond.methodLink RX7 126 yX7_isStuck, Cond.instanceMethod yX7_isStuck, Cond.selects RX7 yX7_isStuck yX7_isStuck, Cond.code yX7_isStuck cX7_isStuck 11 (some .boolean), Cond.fieldLink RX7 23 "CellKeeperModel" "currents" "[J", Cond.constantLong RX7 120 (64), Cond.methodLink RX7 230 yX7_latch]
def wsX7_causes_r3 : List Cond := [Cond.instanceMethod yX7_latch, Cond.selects RX7 yX7_latch yX7_latch, Cond.code yX7_latch cX7_latch 2 none, Cond.fieldLink RX7 221 "CellKeeperModel" "fresh" "Z", Cond.fieldLink RX7 224 "CellKeeperModel" "faults" "I"]
def wsX7_causes : List Cond := .code yX7_causes cX7_causes 2 none :: ((wsX7_causes_r1 ++ (wsX7_causes_r2 ++ wsX7_causes_r3)) ++ wsX70)
def wsX7_become : List Cond := .code yX7_become cX7_become 2 none :: ([.fieldLink RX7 234 "CellKeeperModel" "state" "I", .fieldLink RX7 237 "CellKeeperModel" "stateTicks" "I"] ++ wsX70)
def wsX7_contactors_r1 : List Cond := [Cond.fieldLink RX7 237 "CellKeeperModel" "stateTicks" "I", Cond.fieldLink RX7 109 "CellKeeperModel" "wanted" "Z", Cond.fieldLink RX7 234 "CellKeeperModel" "state" "I", Cond.constantLong RX7 246 (20), Cond.fieldLink RX7 106 "CellKeeperModel" "bus" "I", Cond.constantLong RX7 248 (19), Cond.constantLong RX7 188 (2), Cond.methodLink RX7 240 yX7_isSerious, Cond.instanceMethod yX7_isSerious, Cond.selects RX7 yX7_isSerious yX7_isSerious, Cond.initialized RX7, Cond.code yX7_isSerious cX7_isSerious 1 (some .boolean), Cond.fieldLink RX7 224 "CellKeeperModel" "faults" "I", Cond.methodLink RX7 243 yX7_become, Cond.instanceMethod yX7_become, Cond.selects RX7 yX7_become yX7_become, Cond.code yX7_become cX7_become 2 none, Cond.methodLink RX7 158 yX7_areAllValid, Cond.instanceMethod yX7_areAllValid, Cond.selects RX7 yX7_areAllValid yX7_areAllValid, Cond.code yX7_areAllValid cX7_areAllValid 3 (some .boolean), Cond.fieldLink RX7 49 "CellKeeperModel" "chips" "I", Cond.methodLink RX7 130 yX7_isValid, Cond.instanceMethod yX7_isValid]
def wsX7_contactors_r2 : List Cond := [Cond.selects RX7 yX7_isValid yX7_isValid, Cond.code yX7_isValid cX7_isValid 4 (some .boolean), Cond.fieldLink RX7 26 "CellKeeperModel" "status" "[I", Cond.methodLink RX7 122 yX7_isStale, Cond.instanceMethod yX7_isStale, Cond.selects RX7 yX7_isStale yX7_isStale, Cond.code yX7_isStale cX7_isStale 2 (some .boolean), Cond.fieldLink RX7 29 "CellKeeperModel" "used" "[I", Cond.fieldLink RX7 32 "CellKeeperModel" "age" "[I", Cond.methodLink RX7 117 yX7_numberOf, Cond.instanceMethod yX7_numberOf, Cond.selects RX7 yX7_numberOf yX7_numberOf, Cond.code yX7_numberOf cX7_numberOf 5 (some .int), Cond.fieldLink RX7 20 "CellKeeperModel" "numbers" "[I", Cond.methodLink RX7 126 yX7_isStuck, Cond.instanceMethod yX7_isStuck, Cond.selects RX7 yX7_isStuck yX7_isStuck, Cond.code yX7_isStuck cX7_isStuck 11 (some .boolean), Cond.fieldLink RX7 23 "CellKeeperModel" "currents" "[J", Cond.constantLong RX7 120 (64), Cond.methodLink RX7 164 yX7_sum, Cond.instanceMethod yX7_sum, Cond.selects RX7 yX7_sum yX7_sum, Cond.code yX7_sum cX7_sum 3 (some .int)]
def wsX7_contactors_r3 : List Cond := [Cond.methodLink RX7 230 yX7_latch, Cond.instanceMethod yX7_latch, Cond.selects RX7 yX7_latch yX7_latch, Cond.code yX7_latch cX7_latch 2 none, Cond.fieldLink RX7 221 "CellKeeperModel" "fresh" "Z"]
def wsX7_contactors : List Cond := .code yX7_contactors cX7_contactors 2 none :: ((wsX7_contactors_r1 ++ (wsX7_contactors_r2 ++ wsX7_contactors_r3)) ++ wsX70)
def wsX7_bleed_r1 : List Cond := [Cond.fieldLink RX7 234 "CellKeeperModel" "state" "I", Cond.fieldLink RX7 92 "CellKeeperModel" "current" "J", Cond.constantLong RX7 250 (16), Cond.constant RX7 252 (100000), Cond.fieldLink RX7 49 "CellKeeperModel" "chips" "I", Cond.fieldLink RX7 38 "CellKeeperModel" "bleeding" "[I", Cond.fieldLink RX7 253 "CellKeeperModel" "time" "I", Cond.methodLink RX7 240 yX7_isSerious, Cond.instanceMethod yX7_isSerious, Cond.selects RX7 yX7_isSerious yX7_isSerious, Cond.initialized RX7, Cond.code yX7_isSerious cX7_isSerious 1 (some .boolean), Cond.fieldLink RX7 224 "CellKeeperModel" "faults" "I", Cond.methodLink RX7 147 yX7_sizeOf, Cond.static yX7_sizeOf, Cond.code yX7_sizeOf cX7_sizeOf 2 (some .long), Cond.methodLink RX7 130 yX7_isValid, Cond.instanceMethod yX7_isValid, Cond.selects RX7 yX7_isValid yX7_isValid, Cond.code yX7_isValid cX7_isValid 4 (some .boolean), Cond.fieldLink RX7 26 "CellKeeperModel" "status" "[I", Cond.methodLink RX7 122 yX7_isStale, Cond.instanceMethod yX7_isStale, Cond.selects RX7 yX7_isStale yX7_isStale]
def wsX7_bleed_r2 : List Cond := [Cond.code yX7_isStale cX7_isStale 2 (some .boolean), Cond.fieldLink RX7 29 "CellKeeperModel" "used" "[I", Cond.fieldLink RX7 32 "CellKeeperModel" "age" "[I", Cond.methodLink RX7 117 yX7_numberOf, Cond.instanceMethod yX7_numberOf, Cond.selects RX7 yX7_numberOf yX7_numberOf, Cond.code yX7_numberOf cX7_numberOf 5 (some .int), Cond.fieldLink RX7 20 "CellKeeperModel" "numbers" "[I", Cond.methodLink RX7 126 yX7_isStuck, Cond.instanceMethod yX7_isStuck, Cond.selects RX7 yX7_isStuck yX7_isStuck, Cond.code yX7_isStuck cX7_isStuck 11 (some .boolean), Cond.fieldLink RX7 23 "CellKeeperModel" "currents" "[J", Cond.constantLong RX7 120 (64)]
def wsX7_bleed : List Cond := .code yX7_bleed cX7_bleed 6 none :: ((wsX7_bleed_r1 ++ wsX7_bleed_r2) ++ wsX70)
def wsX7_putBlock : List Cond := .code yX7_putBlock cX7_putBlock 6 none :: ([.fieldLink RX7 13 "CellKeeperModel" "block" "[I"] ++ wsX70)
def wsX7_write : List Cond := .code yX7_write cX7_write 4 none :: ([.fieldLink RX7 256 "CellKeeperModel" "next" "I", .fieldLink RX7 253 "CellKeeperModel" "time" "I", .fieldLink RX7 112 "CellKeeperModel" "charge" "J", .fieldLink RX7 224 "CellKeeperModel" "faults" "I", .fieldLink RX7 234 "CellKeeperModel" "state" "I", .fieldLink RX7 13 "CellKeeperModel" "block" "[I", .fieldLink RX7 52 "CellKeeperModel" "blocks" "I", .fieldLink RX7 41 "CellKeeperModel" "cut" "I", .fieldLink RX7 7 "CellKeeperModel" "journal" "[I", .fieldLink RX7 85 "CellKeeperModel" "off" "Z", .methodLink RX7 259 yX7_putBlock, .instanceMethod yX7_putBlock, .selects RX7 yX7_putBlock yX7_putBlock, .initialized RX7, .code yX7_putBlock cX7_putBlock 6 none, .methodLink RX7 77 yX7_checked, .static yX7_checked, .code yX7_checked cX7_checked 5 (some .int)] ++ wsX70)
def wsX7_tick_r1 : List Cond := [Cond.fieldLink RX7 85 "CellKeeperModel" "off" "Z", Cond.fieldLink RX7 70 "CellKeeperModel" "thrown" "I", Cond.fieldLink RX7 253 "CellKeeperModel" "time" "I", Cond.fieldLink RX7 49 "CellKeeperModel" "chips" "I", Cond.fieldLink RX7 32 "CellKeeperModel" "age" "[I", Cond.fieldLink RX7 221 "CellKeeperModel" "fresh" "Z", Cond.fieldLink RX7 64 "CellKeeperModel" "every" "I", Cond.fieldLink RX7 234 "CellKeeperModel" "state" "I", Cond.methodLink RX7 263 yX7_countCharge, Cond.instanceMethod yX7_countCharge, Cond.selects RX7 yX7_countCharge yX7_countCharge, Cond.initialized RX7, Cond.code yX7_countCharge cX7_countCharge 3 none, Cond.constantLong RX7 140 (8192), Cond.fieldLink RX7 57 "CellKeeperModel" "capacity" "J", Cond.fieldLink RX7 112 "CellKeeperModel" "charge" "J", Cond.constantLong RX7 142 (1024), Cond.fieldLink RX7 92 "CellKeeperModel" "current" "J", Cond.fieldLink RX7 144 "CellKeeperModel" "through" "J", Cond.constantLong RX7 151 (80000), Cond.constantLong RX7 153 (4), Cond.fieldLink RX7 155 "CellKeeperModel" "rest" "I", Cond.constantLong RX7 162 (8), Cond.methodLink RX7 147 yX7_sizeOf]
def wsX7_tick_r2 : List Cond := [Cond.static yX7_sizeOf, Cond.code yX7_sizeOf cX7_sizeOf 2 (some .long), Cond.methodLink RX7 158 yX7_areAllValid, Cond.instanceMethod yX7_areAllValid, Cond.selects RX7 yX7_areAllValid yX7_areAllValid, Cond.code yX7_areAllValid cX7_areAllValid 3 (some .boolean), Cond.methodLink RX7 130 yX7_isValid, Cond.instanceMethod yX7_isValid, Cond.selects RX7 yX7_isValid yX7_isValid, Cond.code yX7_isValid cX7_isValid 4 (some .boolean), Cond.fieldLink RX7 26 "CellKeeperModel" "status" "[I", Cond.methodLink RX7 122 yX7_isStale, Cond.instanceMethod yX7_isStale, Cond.selects RX7 yX7_isStale yX7_isStale, Cond.code yX7_isStale cX7_isStale 2 (some .boolean), Cond.fieldLink RX7 29 "CellKeeperModel" "used" "[I", Cond.methodLink RX7 117 yX7_numberOf, Cond.instanceMethod yX7_numberOf, Cond.selects RX7 yX7_numberOf yX7_numberOf, Cond.code yX7_numberOf cX7_numberOf 5 (some .int), Cond.fieldLink RX7 20 "CellKeeperModel" "numbers" "[I", Cond.methodLink RX7 126 yX7_isStuck, Cond.instanceMethod yX7_isStuck, Cond.selects RX7 yX7_isStuck yX7_isStuck]
def wsX7_tick_r3 : List Cond := [Cond.code yX7_isStuck cX7_isStuck 11 (some .boolean), Cond.fieldLink RX7 23 "CellKeeperModel" "currents" "[J", Cond.constantLong RX7 120 (64), Cond.methodLink RX7 164 yX7_sum, Cond.instanceMethod yX7_sum, Cond.selects RX7 yX7_sum yX7_sum, Cond.code yX7_sum cX7_sum 3 (some .int), Cond.methodLink RX7 168 yX7_told, Cond.static yX7_told, Cond.code yX7_told cX7_told 2 (some .int), Cond.methodLink RX7 133 yX7_knot, Cond.static yX7_knot, Cond.code yX7_knot cX7_knot 1 (some .int), Cond.methodLink RX7 137 yX7_share, Cond.static yX7_share, Cond.code yX7_share cX7_share 1 (some .int), Cond.methodLink RX7 266 yX7_allow, Cond.instanceMethod yX7_allow, Cond.selects RX7 yX7_allow yX7_allow, Cond.code yX7_allow cX7_allow 9 none, Cond.constantLong RX7 184 (360), Cond.constantLong RX7 186 (488), Cond.constantLong RX7 188 (2), Cond.constantLong RX7 190 (80)]
def wsX7_tick_r4 : List Cond := [Cond.constantLong RX7 192 (-176), Cond.constantLong RX7 194 (176), Cond.constantLong RX7 196 (300), Cond.fieldLink RX7 205 "CellKeeperModel" "given" "J", Cond.constantLong RX7 208 (150), Cond.fieldLink RX7 210 "CellKeeperModel" "taken" "J", Cond.methodLink RX7 177 yX7_hottest, Cond.instanceMethod yX7_hottest, Cond.selects RX7 yX7_hottest yX7_hottest, Cond.code yX7_hottest cX7_hottest 4 (some .long), Cond.fieldLink RX7 16 "CellKeeperModel" "warm" "[J", Cond.methodLink RX7 181 yX7_coldest, Cond.instanceMethod yX7_coldest, Cond.selects RX7 yX7_coldest yX7_coldest, Cond.code yX7_coldest cX7_coldest 4 (some .long), Cond.methodLink RX7 173 yX7_floor, Cond.static yX7_floor, Cond.code yX7_floor cX7_floor 6 (some .long), Cond.methodLink RX7 198 yX7_full, Cond.instanceMethod yX7_full, Cond.selects RX7 yX7_full yX7_full, Cond.code yX7_full cX7_full 3 (some .long), Cond.constantLong RX7 171 (512), Cond.methodLink RX7 201 yX7_least]
def wsX7_tick_r5 : List Cond := [Cond.static yX7_least, Cond.code yX7_least cX7_least 8 (some .long), Cond.methodLink RX7 269 yX7_causes, Cond.instanceMethod yX7_causes, Cond.selects RX7 yX7_causes yX7_causes, Cond.code yX7_causes cX7_causes 2 none, Cond.fieldLink RX7 35 "CellKeeperModel" "counts" "[I", Cond.fieldLink RX7 61 "CellKeeperModel" "debounce" "I", Cond.methodLink RX7 227 yX7_isSo, Cond.instanceMethod yX7_isSo, Cond.selects RX7 yX7_isSo yX7_isSo, Cond.code yX7_isSo cX7_isSo 7 (some .boolean), Cond.constantLong RX7 213 (480), Cond.constantLong RX7 215 (-240), Cond.constantLong RX7 217 (640), Cond.constantLong RX7 219 (-8), Cond.methodLink RX7 230 yX7_latch, Cond.instanceMethod yX7_latch, Cond.selects RX7 yX7_latch yX7_latch, Cond.code yX7_latch cX7_latch 2 none, Cond.fieldLink RX7 224 "CellKeeperModel" "faults" "I", Cond.methodLink RX7 272 yX7_contactors, Cond.instanceMethod yX7_contactors, Cond.selects RX7 yX7_contactors yX7_contactors]
def wsX7_tick_r6 : List Cond := [Cond.code yX7_contactors cX7_contactors 2 none, Cond.fieldLink RX7 237 "CellKeeperModel" "stateTicks" "I", Cond.fieldLink RX7 109 "CellKeeperModel" "wanted" "Z", Cond.constantLong RX7 246 (20), Cond.fieldLink RX7 106 "CellKeeperModel" "bus" "I", Cond.constantLong RX7 248 (19), Cond.methodLink RX7 240 yX7_isSerious, Cond.instanceMethod yX7_isSerious, Cond.selects RX7 yX7_isSerious yX7_isSerious, Cond.code yX7_isSerious cX7_isSerious 1 (some .boolean), Cond.methodLink RX7 243 yX7_become, Cond.instanceMethod yX7_become, Cond.selects RX7 yX7_become yX7_become, Cond.code yX7_become cX7_become 2 none, Cond.methodLink RX7 275 yX7_bleed, Cond.instanceMethod yX7_bleed, Cond.selects RX7 yX7_bleed yX7_bleed, Cond.code yX7_bleed cX7_bleed 6 none, Cond.constantLong RX7 250 (16), Cond.constant RX7 252 (100000), Cond.fieldLink RX7 38 "CellKeeperModel" "bleeding" "[I", Cond.methodLink RX7 278 yX7_write, Cond.instanceMethod yX7_write, Cond.selects RX7 yX7_write yX7_write]
def wsX7_tick_r7 : List Cond := [Cond.code yX7_write cX7_write 4 none, Cond.fieldLink RX7 256 "CellKeeperModel" "next" "I", Cond.fieldLink RX7 13 "CellKeeperModel" "block" "[I", Cond.fieldLink RX7 52 "CellKeeperModel" "blocks" "I", Cond.fieldLink RX7 41 "CellKeeperModel" "cut" "I", Cond.fieldLink RX7 7 "CellKeeperModel" "journal" "[I", Cond.methodLink RX7 259 yX7_putBlock, Cond.instanceMethod yX7_putBlock, Cond.selects RX7 yX7_putBlock yX7_putBlock, Cond.code yX7_putBlock cX7_putBlock 6 none, Cond.methodLink RX7 77 yX7_checked, Cond.static yX7_checked, Cond.code yX7_checked cX7_checked 5 (some .int)]
def wsX7_tick : List Cond := .code yX7_tick cX7_tick 4 (some .int) :: ((wsX7_tick_r1 ++ (wsX7_tick_r2 ++ (wsX7_tick_r3 ++ (wsX7_tick_r4 ++ (wsX7_tick_r5 ++ (wsX7_tick_r6 ++ wsX7_tick_r7)))))) ++ wsX70)
def wsX7_reset : List Cond := .code yX7_reset cX7_reset 3 (some .boolean) :: ([.fieldLink RX7 85 "CellKeeperModel" "off" "Z", .fieldLink RX7 70 "CellKeeperModel" "thrown" "I", .fieldLink RX7 224 "CellKeeperModel" "faults" "I", .fieldLink RX7 234 "CellKeeperModel" "state" "I", .fieldLink RX7 35 "CellKeeperModel" "counts" "[I"] ++ wsX70)
def wsX7_cut : List Cond := .code yX7_cut cX7_cut 2 none :: ([.fieldLink RX7 85 "CellKeeperModel" "off" "Z", .fieldLink RX7 70 "CellKeeperModel" "thrown" "I", .fieldLink RX7 41 "CellKeeperModel" "cut" "I"] ++ wsX70)
def wsX7_power_r1 : List Cond := [Cond.fieldLink RX7 70 "CellKeeperModel" "thrown" "I", Cond.fieldLink RX7 253 "CellKeeperModel" "time" "I", Cond.methodLink RX7 67 yX7_begin, Cond.instanceMethod yX7_begin, Cond.selects RX7 yX7_begin yX7_begin, Cond.initialized RX7, Cond.code yX7_begin cX7_begin 3 none, Cond.fieldLink RX7 85 "CellKeeperModel" "off" "Z", Cond.fieldLink RX7 112 "CellKeeperModel" "charge" "J", Cond.fieldLink RX7 144 "CellKeeperModel" "through" "J", Cond.fieldLink RX7 92 "CellKeeperModel" "current" "J", Cond.fieldLink RX7 106 "CellKeeperModel" "bus" "I", Cond.fieldLink RX7 109 "CellKeeperModel" "wanted" "Z", Cond.fieldLink RX7 155 "CellKeeperModel" "rest" "I", Cond.fieldLink RX7 205 "CellKeeperModel" "given" "J", Cond.fieldLink RX7 210 "CellKeeperModel" "taken" "J", Cond.fieldLink RX7 224 "CellKeeperModel" "faults" "I", Cond.fieldLink RX7 234 "CellKeeperModel" "state" "I", Cond.fieldLink RX7 237 "CellKeeperModel" "stateTicks" "I", Cond.fieldLink RX7 41 "CellKeeperModel" "cut" "I", Cond.fieldLink RX7 256 "CellKeeperModel" "next" "I", Cond.fieldLink RX7 35 "CellKeeperModel" "counts" "[I", Cond.fieldLink RX7 16 "CellKeeperModel" "warm" "[J", Cond.constantLong RX7 287 (160)]
def wsX7_power_r2 : List Cond := [Cond.fieldLink RX7 29 "CellKeeperModel" "used" "[I", Cond.fieldLink RX7 32 "CellKeeperModel" "age" "[I", Cond.fieldLink RX7 38 "CellKeeperModel" "bleeding" "[I", Cond.fieldLink RX7 52 "CellKeeperModel" "blocks" "I", Cond.constantLong RX7 140 (8192), Cond.fieldLink RX7 57 "CellKeeperModel" "capacity" "J", Cond.methodLink RX7 289 yX7_isRight, Cond.instanceMethod yX7_isRight, Cond.selects RX7 yX7_isRight yX7_isRight, Cond.code yX7_isRight cX7_isRight 5 (some .boolean), Cond.fieldLink RX7 7 "CellKeeperModel" "journal" "[I", Cond.constantLong RX7 285 (1000000000), Cond.methodLink RX7 77 yX7_checked, Cond.static yX7_checked, Cond.code yX7_checked cX7_checked 5 (some .int), Cond.methodLink RX7 281 yX7_number, Cond.instanceMethod yX7_number, Cond.selects RX7 yX7_number yX7_number, Cond.code yX7_number cX7_number 6 (some .long)]
def wsX7_power : List Cond := .code yX7_power cX7_power 1 (some .int) :: ((wsX7_power_r1 ++ wsX7_power_r2) ++ wsX70)
def wsX7_off : List Cond := .code yX7_off cX7_off 1 (some .boolean) :: ([.fieldLink RX7 70 "CellKeeperModel" "thrown" "I", .fieldLink RX7 85 "CellKeeperModel" "off" "Z"] ++ wsX70)
def wsX7_noPower : List Cond := .code yX7_noPower cX7_noPower 1 (some .boolean) :: ([.fieldLink RX7 85 "CellKeeperModel" "off" "Z", .fieldLink RX7 70 "CellKeeperModel" "thrown" "I"] ++ wsX70)
def wsX7_time : List Cond := .code yX7_time cX7_time 1 (some .int) :: ([.fieldLink RX7 253 "CellKeeperModel" "time" "I", .methodLink RX7 292 yX7_noPower, .instanceMethod yX7_noPower, .selects RX7 yX7_noPower yX7_noPower, .initialized RX7, .code yX7_noPower cX7_noPower 1 (some .boolean), .fieldLink RX7 85 "CellKeeperModel" "off" "Z", .fieldLink RX7 70 "CellKeeperModel" "thrown" "I"] ++ wsX70)
def wsX7_charge : List Cond := .code yX7_charge cX7_charge 1 (some .double) :: ([.fieldLink RX7 112 "CellKeeperModel" "charge" "J", .constantDouble RX7 115 (4665729213955833856), .methodLink RX7 292 yX7_noPower, .instanceMethod yX7_noPower, .selects RX7 yX7_noPower yX7_noPower, .initialized RX7, .code yX7_noPower cX7_noPower 1 (some .boolean), .fieldLink RX7 85 "CellKeeperModel" "off" "Z", .fieldLink RX7 70 "CellKeeperModel" "thrown" "I"] ++ wsX70)
def wsX7_percent : List Cond := .code yX7_percent cX7_percent 1 (some .int) :: ([.constantLong RX7 55 (100), .fieldLink RX7 112 "CellKeeperModel" "charge" "J", .constantLong RX7 140 (8192), .fieldLink RX7 57 "CellKeeperModel" "capacity" "J", .methodLink RX7 292 yX7_noPower, .instanceMethod yX7_noPower, .selects RX7 yX7_noPower yX7_noPower, .initialized RX7, .code yX7_noPower cX7_noPower 1 (some .boolean), .fieldLink RX7 85 "CellKeeperModel" "off" "Z", .fieldLink RX7 70 "CellKeeperModel" "thrown" "I", .methodLink RX7 173 yX7_floor, .static yX7_floor, .code yX7_floor cX7_floor 6 (some .long)] ++ wsX70)
def wsX7_through : List Cond := .code yX7_through cX7_through 1 (some .double) :: ([.fieldLink RX7 144 "CellKeeperModel" "through" "J", .constantDouble RX7 99 (4620693217682128896), .methodLink RX7 292 yX7_noPower, .instanceMethod yX7_noPower, .selects RX7 yX7_noPower yX7_noPower, .initialized RX7, .code yX7_noPower cX7_noPower 1 (some .boolean), .fieldLink RX7 85 "CellKeeperModel" "off" "Z", .fieldLink RX7 70 "CellKeeperModel" "thrown" "I"] ++ wsX70)
def wsX7_allowed : List Cond := .code yX7_allowed cX7_allowed 2 (some .double) :: ([.fieldLink RX7 210 "CellKeeperModel" "taken" "J", .fieldLink RX7 205 "CellKeeperModel" "given" "J", .constantDouble RX7 295 (4634204016564240384), .methodLink RX7 292 yX7_noPower, .instanceMethod yX7_noPower, .selects RX7 yX7_noPower yX7_noPower, .initialized RX7, .code yX7_noPower cX7_noPower 1 (some .boolean), .fieldLink RX7 85 "CellKeeperModel" "off" "Z", .fieldLink RX7 70 "CellKeeperModel" "thrown" "I"] ++ wsX70)
def wsX7_noChip : List Cond := .code yX7_noChip cX7_noChip 2 (some .boolean) :: ([.fieldLink RX7 49 "CellKeeperModel" "chips" "I", .fieldLink RX7 85 "CellKeeperModel" "off" "Z", .fieldLink RX7 70 "CellKeeperModel" "thrown" "I"] ++ wsX70)
def wsX7_valid_r1 : List Cond := [Cond.fieldLink RX7 49 "CellKeeperModel" "chips" "I", Cond.fieldLink RX7 85 "CellKeeperModel" "off" "Z", Cond.fieldLink RX7 70 "CellKeeperModel" "thrown" "I", Cond.methodLink RX7 130 yX7_isValid, Cond.instanceMethod yX7_isValid, Cond.selects RX7 yX7_isValid yX7_isValid, Cond.initialized RX7, Cond.code yX7_isValid cX7_isValid 4 (some .boolean), Cond.fieldLink RX7 26 "CellKeeperModel" "status" "[I", Cond.methodLink RX7 122 yX7_isStale, Cond.instanceMethod yX7_isStale, Cond.selects RX7 yX7_isStale yX7_isStale, Cond.code yX7_isStale cX7_isStale 2 (some .boolean), Cond.fieldLink RX7 29 "CellKeeperModel" "used" "[I", Cond.fieldLink RX7 32 "CellKeeperModel" "age" "[I", Cond.methodLink RX7 117 yX7_numberOf, Cond.instanceMethod yX7_numberOf, Cond.selects RX7 yX7_numberOf yX7_numberOf, Cond.code yX7_numberOf cX7_numberOf 5 (some .int), Cond.fieldLink RX7 20 "CellKeeperModel" "numbers" "[I", Cond.methodLink RX7 126 yX7_isStuck, Cond.instanceMethod yX7_isStuck, Cond.selects RX7 yX7_isStuck yX7_isStuck, Cond.code yX7_isStuck cX7_isStuck 11 (some .boolean)]
def wsX7_valid_r2 : List Cond := [Cond.fieldLink RX7 23 "CellKeeperModel" "currents" "[J", Cond.constantLong RX7 120 (64)]
def wsX7_valid : List Cond := .code yX7_valid cX7_valid 3 (some .boolean) :: ((wsX7_valid_r1 ++ wsX7_valid_r2) ++ wsX70)
def wsX7_bleeding : List Cond := .code yX7_bleeding cX7_bleeding 2 (some .int) :: ([.fieldLink RX7 38 "CellKeeperModel" "bleeding" "[I", .methodLink RX7 297 yX7_noChip, .instanceMethod yX7_noChip, .selects RX7 yX7_noChip yX7_noChip, .initialized RX7, .code yX7_noChip cX7_noChip 2 (some .boolean), .fieldLink RX7 49 "CellKeeperModel" "chips" "I", .fieldLink RX7 85 "CellKeeperModel" "off" "Z", .fieldLink RX7 70 "CellKeeperModel" "thrown" "I"] ++ wsX70)
def wsX7_faults : List Cond := .code yX7_faults cX7_faults 1 (some .int) :: ([.fieldLink RX7 224 "CellKeeperModel" "faults" "I", .methodLink RX7 292 yX7_noPower, .instanceMethod yX7_noPower, .selects RX7 yX7_noPower yX7_noPower, .initialized RX7, .code yX7_noPower cX7_noPower 1 (some .boolean), .fieldLink RX7 85 "CellKeeperModel" "off" "Z", .fieldLink RX7 70 "CellKeeperModel" "thrown" "I"] ++ wsX70)
def wsX7_count : List Cond := .code yX7_count cX7_count 2 (some .int) :: ([.fieldLink RX7 85 "CellKeeperModel" "off" "Z", .fieldLink RX7 70 "CellKeeperModel" "thrown" "I", .fieldLink RX7 35 "CellKeeperModel" "counts" "[I"] ++ wsX70)
def wsX7_journal : List Cond := .code yX7_journal cX7_journal 2 (some .int) :: ([.fieldLink RX7 52 "CellKeeperModel" "blocks" "I", .fieldLink RX7 70 "CellKeeperModel" "thrown" "I", .fieldLink RX7 7 "CellKeeperModel" "journal" "[I"] ++ wsX70)
def wsX7_spoil : List Cond := .code yX7_spoil cX7_spoil 3 none :: ([.fieldLink RX7 52 "CellKeeperModel" "blocks" "I", .fieldLink RX7 70 "CellKeeperModel" "thrown" "I", .fieldLink RX7 7 "CellKeeperModel" "journal" "[I"] ++ wsX70)
def wsJ9_max_7cf53 : List Cond := .code yJ9_max_7cf53 cJ9_max_7cf53 2 (some .int) :: ([])
def wsJ9_max_f86c9 : List Cond := .code yJ9_max_f86c9 cJ9_max_f86c9 4 (some .long) :: ([])
def wsJ9_min_7cf53 : List Cond := .code yJ9_min_7cf53 cJ9_min_7cf53 2 (some .int) :: ([])
def wsJ9_min_f86c9 : List Cond := .code yJ9_min_f86c9 cJ9_min_f86c9 4 (some .long) :: ([])
def wsL_cell : List Cond := .code yL_cell cL_cell 2 (some .int) :: ([])
def wsL_reply_r1 : List Cond := [Cond.classLink RL 13 "java/lang/IndexOutOfBoundsException", Cond.classLink RL 15 "java/lang/IllegalStateException", Cond.methodLink RL 7 yX6_reply, Cond.instanceMethod yX6_reply, Cond.selects RX6 yX6_reply yX6_reply, Cond.initialized RX6, Cond.code yX6_reply cX6_reply 6 (some .boolean), Cond.constantLong RX6 72 (65535), Cond.fieldLink RX6 15 "CellKeeper" "chain" "[LCellKeeper$Chip;", Cond.fieldLink RX6 74 "CellKeeper" "amperes" "D", Cond.methodLink RX6 66 yX6_needChip, Cond.instanceMethod yX6_needChip, Cond.selects RX6 yX6_needChip yX6_needChip, Cond.code yX6_needChip cX6_needChip 2 none, Cond.methodLink RX6 113 yX6_needIndex, Cond.static yX6_needIndex, Cond.code yX6_needIndex cX6_needIndex 2 none, Cond.classLink RX6 201 "java/lang/IndexOutOfBoundsException", Cond.initialized "java/lang/IndexOutOfBoundsException", Cond.methodLink RX6 69 yX6_needPower, Cond.instanceMethod yX6_needPower, Cond.selects RX6 yX6_needPower yX6_needPower, Cond.code yX6_needPower cX6_needPower 1 none, Cond.classLink RX6 194 "java/lang/IllegalStateException"]
def wsL_reply_r2 : List Cond := [Cond.initialized "java/lang/IllegalStateException", Cond.fieldLink RX6 104 "CellKeeper" "dark" "Z", Cond.methodLink RX6 60 yX2_ofReply, Cond.static yX2_ofReply, Cond.initialized RX2, Cond.code yX2_ofReply cX2_ofReply 6 (some .int), Cond.methodLink RX2 7 yX2_withByte, Cond.static yX2_withByte, Cond.code yX2_withByte cX2_withByte 5 (some .int), Cond.methodLink RX6 78 yX3_take, Cond.instanceMethod yX3_take, Cond.selects RX3 yX3_take yX3_take, Cond.initialized RX3, Cond.code yX3_take cX3_take 10 none, Cond.fieldLink RX3 26 "CellKeeper$Chip" "used" "I", Cond.fieldLink RX3 9 "CellKeeper$Chip" "numbers" "[I", Cond.fieldLink RX3 15 "CellKeeper$Chip" "alike" "[I", Cond.constantLong RX3 45 (65535), Cond.fieldLink RX3 22 "CellKeeper$Chip" "status" "I", Cond.fieldLink RX3 18 "CellKeeper$Chip" "currents" "[D", Cond.fieldLink RX3 29 "CellKeeper$Chip" "age" "I", Cond.methodLink RX3 41 yX3_numberIn, Cond.static yX3_numberIn, Cond.code yX3_numberIn cX3_numberIn 7 (some .int)]
def wsL_reply_r3 : List Cond := [Cond.methodLink RX3 47 yJ9_floorMod_7cf53, Cond.static yJ9_floorMod_7cf53, Cond.initialized RJ9, Cond.code yJ9_floorMod_7cf53 cJ9_floorMod_7cf53 3 (some .int)]
def wsL_reply : List Cond := .codeWith yL_reply cL_reply 8 (some .int) [(0, 20, 23, 13), (0, 20, 27, 15)] :: ((wsL_reply_r1 ++ (wsL_reply_r2 ++ wsL_reply_r3)) ++ wsX60 ++ wsX30 ++ (vx_atS RX6 205 "java/lang/IndexOutOfBoundsException" ["java/lang/RuntimeException", "java/lang/Exception"]).filter goodWord ++ (vx_atS RX6 198 "java/lang/IllegalStateException" ["java/lang/RuntimeException", "java/lang/Exception"]).filter goodWord)
def wsL_current : List Cond := .codeWith yL_current cL_current 4 (some .int) [(0, 5, 8, 21), (0, 5, 11, 15)] :: ([.classLink RL 21 "java/lang/IllegalArgumentException", .classLink RL 15 "java/lang/IllegalStateException", .methodLink RL 17 yX6_current, .instanceMethod yX6_current, .selects RX6 yX6_current yX6_current, .initialized RX6, .code yX6_current cX6_current 3 none, .fieldLink RX6 74 "CellKeeper" "amperes" "D", .methodLink RX6 82 yX6_needAmount, .static yX6_needAmount, .code yX6_needAmount cX6_needAmount 5 none, .classLink RX6 206 "java/lang/IllegalArgumentException", .initialized "java/lang/IllegalArgumentException", .constantDouble RX6 211 (4620693217682128896), .methodLink RX6 69 yX6_needPower, .instanceMethod yX6_needPower, .selects RX6 yX6_needPower yX6_needPower, .code yX6_needPower cX6_needPower 1 none, .classLink RX6 194 "java/lang/IllegalStateException", .initialized "java/lang/IllegalStateException", .fieldLink RX6 104 "CellKeeper" "dark" "Z"] ++ wsX60 ++ (vx_atS RX6 210 "java/lang/IllegalArgumentException" ["java/lang/RuntimeException", "java/lang/Exception"]).filter goodWord ++ (vx_atS RX6 198 "java/lang/IllegalStateException" ["java/lang/RuntimeException", "java/lang/Exception"]).filter goodWord)
def wsL_warm_r1 : List Cond := [Cond.classLink RL 13 "java/lang/IndexOutOfBoundsException", Cond.classLink RL 21 "java/lang/IllegalArgumentException", Cond.classLink RL 15 "java/lang/IllegalStateException", Cond.methodLink RL 23 yX6_warm, Cond.instanceMethod yX6_warm, Cond.selects RX6 yX6_warm yX6_warm, Cond.initialized RX6, Cond.code yX6_warm cX6_warm 4 none, Cond.fieldLink RX6 15 "CellKeeper" "chain" "[LCellKeeper$Chip;", Cond.fieldLink RX6 86 "CellKeeper$Chip" "degrees" "D", Cond.methodLink RX6 66 yX6_needChip, Cond.instanceMethod yX6_needChip, Cond.selects RX6 yX6_needChip yX6_needChip, Cond.code yX6_needChip cX6_needChip 2 none, Cond.methodLink RX6 113 yX6_needIndex, Cond.static yX6_needIndex, Cond.code yX6_needIndex cX6_needIndex 2 none, Cond.classLink RX6 201 "java/lang/IndexOutOfBoundsException", Cond.initialized "java/lang/IndexOutOfBoundsException", Cond.methodLink RX6 82 yX6_needAmount, Cond.static yX6_needAmount, Cond.code yX6_needAmount cX6_needAmount 5 none, Cond.classLink RX6 206 "java/lang/IllegalArgumentException", Cond.initialized "java/lang/IllegalArgumentException"]
def wsL_warm_r2 : List Cond := [Cond.constantDouble RX6 211 (4620693217682128896), Cond.methodLink RX6 69 yX6_needPower, Cond.instanceMethod yX6_needPower, Cond.selects RX6 yX6_needPower yX6_needPower, Cond.code yX6_needPower cX6_needPower 1 none, Cond.classLink RX6 194 "java/lang/IllegalStateException", Cond.initialized "java/lang/IllegalStateException", Cond.fieldLink RX6 104 "CellKeeper" "dark" "Z"]
def wsL_warm : List Cond := .codeWith yL_warm cL_warm 5 (some .int) [(0, 6, 9, 13), (0, 6, 13, 21), (0, 6, 17, 15)] :: ((wsL_warm_r1 ++ wsL_warm_r2) ++ wsX60 ++ wsX30 ++ (vx_atS RX6 205 "java/lang/IndexOutOfBoundsException" ["java/lang/RuntimeException", "java/lang/Exception"]).filter goodWord ++ (vx_atS RX6 210 "java/lang/IllegalArgumentException" ["java/lang/RuntimeException", "java/lang/Exception"]).filter goodWord ++ (vx_atS RX6 198 "java/lang/IllegalStateException" ["java/lang/RuntimeException", "java/lang/Exception"]).filter goodWord)
def wsL_bus : List Cond := .codeWith yL_bus cL_bus 3 (some .int) [(0, 5, 8, 21), (0, 5, 11, 15)] :: ([.classLink RL 21 "java/lang/IllegalArgumentException", .classLink RL 15 "java/lang/IllegalStateException", .methodLink RL 27 yX6_bus, .instanceMethod yX6_bus, .selects RX6 yX6_bus yX6_bus, .initialized RX6, .code yX6_bus cX6_bus 2 none, .constant RX6 89 (1000000), .fieldLink RX6 94 "CellKeeper" "bus" "I", .methodLink RX6 90 yX6_needWhole, .static yX6_needWhole, .code yX6_needWhole cX6_needWhole 3 none, .classLink RX6 206 "java/lang/IllegalArgumentException", .initialized "java/lang/IllegalArgumentException", .methodLink RX6 69 yX6_needPower, .instanceMethod yX6_needPower, .selects RX6 yX6_needPower yX6_needPower, .code yX6_needPower cX6_needPower 1 none, .classLink RX6 194 "java/lang/IllegalStateException", .initialized "java/lang/IllegalStateException", .fieldLink RX6 104 "CellKeeper" "dark" "Z"] ++ wsX60 ++ (vx_atS RX6 210 "java/lang/IllegalArgumentException" ["java/lang/RuntimeException", "java/lang/Exception"]).filter goodWord ++ (vx_atS RX6 198 "java/lang/IllegalStateException" ["java/lang/RuntimeException", "java/lang/Exception"]).filter goodWord)
def wsL_want : List Cond := .codeWith yL_want cL_want 3 (some .int) [(0, 5, 8, 15)] :: ([.classLink RL 15 "java/lang/IllegalStateException", .methodLink RL 31 yX6_want, .instanceMethod yX6_want, .selects RX6 yX6_want yX6_want, .initialized RX6, .code yX6_want cX6_want 2 none, .fieldLink RX6 97 "CellKeeper" "wanted" "Z", .methodLink RX6 69 yX6_needPower, .instanceMethod yX6_needPower, .selects RX6 yX6_needPower yX6_needPower, .code yX6_needPower cX6_needPower 1 none, .classLink RX6 194 "java/lang/IllegalStateException", .initialized "java/lang/IllegalStateException", .fieldLink RX6 104 "CellKeeper" "dark" "Z"] ++ wsX60 ++ (vx_atS RX6 198 "java/lang/IllegalStateException" ["java/lang/RuntimeException", "java/lang/Exception"]).filter goodWord)
def wsL_set : List Cond := .codeWith yL_set cL_set 4 (some .int) [(0, 5, 8, 21), (0, 5, 11, 15)] :: ([.classLink RL 21 "java/lang/IllegalArgumentException", .classLink RL 15 "java/lang/IllegalStateException", .methodLink RL 35 yX6_set, .instanceMethod yX6_set, .selects RX6 yX6_set yX6_set, .initialized RX6, .code yX6_set cX6_set 3 none, .fieldLink RX6 20 "CellKeeper" "capacity" "I", .fieldLink RX6 101 "CellKeeper" "charge" "D", .methodLink RX6 82 yX6_needAmount, .static yX6_needAmount, .code yX6_needAmount cX6_needAmount 5 none, .classLink RX6 206 "java/lang/IllegalArgumentException", .initialized "java/lang/IllegalArgumentException", .constantDouble RX6 211 (4620693217682128896), .methodLink RX6 69 yX6_needPower, .instanceMethod yX6_needPower, .selects RX6 yX6_needPower yX6_needPower, .code yX6_needPower cX6_needPower 1 none, .classLink RX6 194 "java/lang/IllegalStateException", .initialized "java/lang/IllegalStateException", .fieldLink RX6 104 "CellKeeper" "dark" "Z"] ++ wsX60 ++ (vx_atS RX6 210 "java/lang/IllegalArgumentException" ["java/lang/RuntimeException", "java/lang/Exception"]).filter goodWord ++ (vx_atS RX6 198 "java/lang/IllegalStateException" ["java/lang/RuntimeException", "java/lang/Exception"]).filter goodWord)
def wsL_tick_r1 : List Cond := [Cond.classLink RL 21 "java/lang/IllegalArgumentException", Cond.classLink RL 15 "java/lang/IllegalStateException", Cond.methodLink RL 38 yX6_tick, Cond.instanceMethod yX6_tick, Cond.selects RX6 yX6_tick yX6_tick, Cond.initialized RX6, Cond.code yX6_tick cX6_tick 3 (some .int), Cond.fieldLink RX6 104 "CellKeeper" "dark" "Z", Cond.fieldLink RX6 46 "CellKeeper" "contactors" "LCellKeeper$Contactors;", Cond.fieldLink RX6 110 "CellKeeper$Contactors" "state" "I", Cond.methodLink RX6 90 yX6_needWhole, Cond.static yX6_needWhole, Cond.code yX6_needWhole cX6_needWhole 3 none, Cond.classLink RX6 206 "java/lang/IllegalArgumentException", Cond.initialized "java/lang/IllegalArgumentException", Cond.methodLink RX6 69 yX6_needPower, Cond.instanceMethod yX6_needPower, Cond.selects RX6 yX6_needPower yX6_needPower, Cond.code yX6_needPower cX6_needPower 1 none, Cond.classLink RX6 194 "java/lang/IllegalStateException", Cond.initialized "java/lang/IllegalStateException", Cond.methodLink RX6 107 yX6_passOneTick, Cond.instanceMethod yX6_passOneTick, Cond.selects RX6 yX6_passOneTick yX6_passOneTick]
def wsL_tick_r2 : List Cond := [Cond.code yX6_passOneTick cX6_passOneTick 5 none, Cond.fieldLink RX6 138 "CellKeeper" "time" "I", Cond.fieldLink RX6 15 "CellKeeper" "chain" "[LCellKeeper$Chip;", Cond.fieldLink RX6 231 "CellKeeper$Chip" "age" "I", Cond.fieldLink RX6 30 "CellKeeper" "survey" "LCellKeeper$Survey;", Cond.fieldLink RX6 97 "CellKeeper" "wanted" "Z", Cond.fieldLink RX6 94 "CellKeeper" "bus" "I", Cond.fieldLink RX6 39 "CellKeeper" "alarms" "LCellKeeper$Alarms;", Cond.fieldLink RX6 254 "CellKeeper$Alarms" "fresh" "Z", Cond.fieldLink RX6 24 "CellKeeper" "every" "I", Cond.methodLink RX6 234 yX5_look, Cond.instanceMethod yX5_look, Cond.selects RX5 yX5_look yX5_look, Cond.initialized RX5, Cond.code yX5_look cX5_look 6 none, Cond.fieldLink RX5 9 "CellKeeper$Survey" "staleChip" "Z", Cond.fieldLink RX5 15 "CellKeeper$Survey" "invalidCell" "Z", Cond.fieldLink RX5 18 "CellKeeper$Survey" "sum" "I", Cond.constant RX5 24 (2147483647), Cond.fieldLink RX5 25 "CellKeeper$Survey" "least" "I", Cond.fieldLink RX5 28 "CellKeeper$Survey" "greatest" "I", Cond.constantDouble RX5 31 (13860109328209412096), Cond.fieldLink RX5 33 "CellKeeper$Survey" "hottest" "D", Cond.constantDouble RX5 37 (4641240890982006784)]
def wsL_tick_r3 : List Cond := [Cond.fieldLink RX5 39 "CellKeeper$Survey" "coldest" "D", Cond.fieldLink RX5 42 "CellKeeper$Chip" "degrees" "D", Cond.methodLink RX5 47 yX3_isStale, Cond.instanceMethod yX3_isStale, Cond.selects RX3 yX3_isStale yX3_isStale, Cond.initialized RX3, Cond.code yX3_isStale cX3_isStale 1 (some .boolean), Cond.fieldLink RX3 26 "CellKeeper$Chip" "used" "I", Cond.fieldLink RX3 29 "CellKeeper$Chip" "age" "I", Cond.methodLink RX5 51 yX5_lookAtCells, Cond.instanceMethod yX5_lookAtCells, Cond.selects RX5 yX5_lookAtCells yX5_lookAtCells, Cond.code yX5_lookAtCells cX5_lookAtCells 4 none, Cond.fieldLink RX5 59 "CellKeeper$Chip" "numbers" "[I", Cond.methodLink RX5 63 Lib.Math.min.name, Cond.static Lib.Math.min.name, Cond.initialized "java/lang/Math", Cond.code Lib.Math.min.name Lib.Math.min.code 2 (some .int), Cond.methodLink RX5 69 Lib.Math.max.name, Cond.static Lib.Math.max.name, Cond.code Lib.Math.max.name Lib.Math.max.code 2 (some .int), Cond.methodLink RX5 55 yX3_isValid, Cond.instanceMethod yX3_isValid, Cond.selects RX3 yX3_isValid yX3_isValid]
def wsL_tick_r4 : List Cond := [Cond.code yX3_isValid cX3_isValid 2 (some .boolean), Cond.fieldLink RX3 9 "CellKeeper$Chip" "numbers" "[I", Cond.fieldLink RX3 22 "CellKeeper$Chip" "status" "I", Cond.methodLink RX3 53 yX3_isStale, Cond.methodLink RX3 57 yX3_isStuck, Cond.instanceMethod yX3_isStuck, Cond.selects RX3 yX3_isStuck yX3_isStuck, Cond.code yX3_isStuck cX3_isStuck 2 (some .boolean), Cond.fieldLink RX3 15 "CellKeeper$Chip" "alike" "[I", Cond.methodLink RX3 61 yX3_currentsSwing, Cond.instanceMethod yX3_currentsSwing, Cond.selects RX3 yX3_currentsSwing yX3_currentsSwing, Cond.code yX3_currentsSwing cX3_currentsSwing 10 (some .boolean), Cond.fieldLink RX3 18 "CellKeeper$Chip" "currents" "[D", Cond.constantDouble RX3 64 (4620693217682128896), Cond.methodLink RX6 238 yX6_moveCharge, Cond.instanceMethod yX6_moveCharge, Cond.selects RX6 yX6_moveCharge yX6_moveCharge, Cond.code yX6_moveCharge cX6_moveCharge 2 none, Cond.fieldLink RX6 101 "CellKeeper" "charge" "D", Cond.fieldLink RX6 74 "CellKeeper" "amperes" "D", Cond.fieldLink RX6 20 "CellKeeper" "capacity" "I", Cond.fieldLink RX6 161 "CellKeeper" "through" "D", Cond.constantDouble RX6 264 (4666723172467343360)]
def wsL_tick_r5 : List Cond := [Cond.constantDouble RX6 266 (4602678819172646912), Cond.fieldLink RX6 215 "CellKeeper" "rest" "I", Cond.fieldLink RX6 272 "CellKeeper$Survey" "sum" "I", Cond.methodLink RX6 191 Lib.Math.max.name, Cond.constantDouble RX6 278 (4652218415073722368), Cond.methodLink RX6 260 yX6_currentSize, Cond.instanceMethod yX6_currentSize, Cond.selects RX6 yX6_currentSize yX6_currentSize, Cond.code yX6_currentSize cX6_currentSize 1 (some .double), Cond.methodLink RX6 268 yX5_allValid, Cond.instanceMethod yX5_allValid, Cond.selects RX5 yX5_allValid yX5_allValid, Cond.code yX5_allValid cX5_allValid 1 (some .boolean), Cond.methodLink RX6 275 yX6_partsAtRest, Cond.static yX6_partsAtRest, Cond.code yX6_partsAtRest cX6_partsAtRest 4 (some .int), Cond.fieldLink RX6 280 "CellKeeper" "REST_MILLIVOLTS" "[I", Cond.fieldLink RX6 283 "CellKeeper" "REST_PARTS" "[I", Cond.methodLink RX6 241 yX6_tellAllowed, Cond.instanceMethod yX6_tellAllowed, Cond.selects RX6 yX6_tellAllowed yX6_tellAllowed, Cond.code yX6_tellAllowed cX6_tellAllowed 2 none, Cond.fieldLink RX6 286 "CellKeeper$Survey" "hottest" "D", Cond.fieldLink RX6 292 "CellKeeper$Survey" "coldest" "D"]
def wsL_tick_r6 : List Cond := [Cond.methodLink RX6 185 Lib.Math.min.name, Cond.constantDouble RX6 298 (4643985272004935680), Cond.constantDouble RX6 303 (4634204016564240384), Cond.fieldLink RX6 167 "CellKeeper" "mayGive" "D", Cond.constantDouble RX6 305 (4639481672377565184), Cond.fieldLink RX6 164 "CellKeeper" "mayTake" "D", Cond.methodLink RX6 289 yX6_heatShare, Cond.static yX6_heatShare, Cond.code yX6_heatShare cX6_heatShare 2 (some .int), Cond.constantDouble RX6 307 (4631530004285489152), Cond.constantDouble RX6 309 (4633781804099174400), Cond.constantDouble RX6 311 (4616189618054758400), Cond.methodLink RX6 295 yX6_coldShare, Cond.static yX6_coldShare, Cond.code yX6_coldShare cX6_coldShare 2 (some .int), Cond.constantDouble RX6 313 (4621819117588971520), Cond.constantDouble RX6 315 (13850257704024539136), Cond.constantDouble RX6 317 (4611686018427387904), Cond.constantDouble RX6 319 (4626885667169763328), Cond.methodLink RX6 300 yX6_chargeShare, Cond.instanceMethod yX6_chargeShare, Cond.selects RX6 yX6_chargeShare yX6_chargeShare, Cond.code yX6_chargeShare cX6_chargeShare 3 (some .int), Cond.constantDouble RX6 211 (4620693217682128896)]
def wsL_tick_r7 : List Cond := [Cond.constantDouble RX6 321 (4647714815446351872), Cond.methodLink RX6 157 yX6_wholeCapacities, Cond.instanceMethod yX6_wholeCapacities, Cond.selects RX6 yX6_wholeCapacities yX6_wholeCapacities, Cond.code yX6_wholeCapacities cX6_wholeCapacities 4 (some .int), Cond.methodLink RX6 244 yX6_watchCauses, Cond.instanceMethod yX6_watchCauses, Cond.selects RX6 yX6_watchCauses yX6_watchCauses, Cond.code yX6_watchCauses cX6_watchCauses 1 none, Cond.fieldLink RX6 323 "CellKeeper$Survey" "staleChip" "Z", Cond.fieldLink RX6 330 "CellKeeper$Survey" "invalidCell" "Z", Cond.fieldLink RX6 333 "CellKeeper$Survey" "greatest" "I", Cond.fieldLink RX6 336 "CellKeeper$Survey" "least" "I", Cond.constantDouble RX6 339 (4633641066610819072), Cond.constantDouble RX6 341 (13852509503838224384), Cond.methodLink RX6 326 yX0_watch, Cond.instanceMethod yX0_watch, Cond.selects RX0 yX0_watch yX0_watch, Cond.initialized RX0, Cond.code yX0_watch cX0_watch 3 none, Cond.fieldLink RX0 9 "CellKeeper$Alarms" "counts" "[I", Cond.methodLink RX0 24 Lib.Math.min.name, Cond.fieldLink RX0 13 "CellKeeper$Alarms" "debounce" "I", Cond.methodLink RX0 30 yX0_latch]
def wsL_tick_r8 : List Cond := [Cond.instanceMethod yX0_latch, Cond.selects RX0 yX0_latch yX0_latch, Cond.code yX0_latch cX0_latch 2 none, Cond.fieldLink RX0 17 "CellKeeper$Alarms" "latched" "I", Cond.fieldLink RX0 20 "CellKeeper$Alarms" "fresh" "Z", Cond.methodLink RX0 34 yX0_isLatched, Cond.instanceMethod yX0_isLatched, Cond.selects RX0 yX0_isLatched yX0_isLatched, Cond.code yX0_isLatched cX0_isLatched 2 (some .boolean), Cond.methodLink RX6 247 yX4_step, Cond.instanceMethod yX4_step, Cond.selects RX4 yX4_step yX4_step, Cond.initialized RX4, Cond.code yX4_step cX4_step 7 none, Cond.fieldLink RX4 13 "CellKeeper$Contactors" "ticks" "I", Cond.fieldLink RX4 9 "CellKeeper$Contactors" "state" "I", Cond.methodLink RX4 16 yX0_anySerious, Cond.instanceMethod yX0_anySerious, Cond.selects RX0 yX0_anySerious yX0_anySerious, Cond.code yX0_anySerious cX0_anySerious 1 (some .boolean), Cond.methodLink RX4 22 yX4_opened, Cond.instanceMethod yX4_opened, Cond.selects RX4 yX4_opened yX4_opened, Cond.code yX4_opened cX4_opened 4 (some .int)]
def wsL_tick_r9 : List Cond := [Cond.fieldLink RX4 34 "CellKeeper$Survey" "sum" "I", Cond.methodLink RX4 37 yX0_latch, Cond.methodLink RX4 26 yX4_precharged, Cond.instanceMethod yX4_precharged, Cond.selects RX4 yX4_precharged yX4_precharged, Cond.code yX4_precharged cX4_precharged 4 (some .int), Cond.methodLink RX4 29 yX5_allValid, Cond.methodLink RX6 251 yX6_letBleed, Cond.instanceMethod yX6_letBleed, Cond.selects RX6 yX6_letBleed yX6_letBleed, Cond.code yX6_letBleed cX6_letBleed 7 none, Cond.fieldLink RX6 174 "CellKeeper$Chip" "bleeds" "I", Cond.methodLink RX6 343 yX0_anySerious, Cond.methodLink RX6 346 yX3_cellsToBleed, Cond.instanceMethod yX3_cellsToBleed, Cond.selects RX3 yX3_cellsToBleed yX3_cellsToBleed, Cond.code yX3_cellsToBleed cX3_cellsToBleed 7 (some .int), Cond.methodLink RX3 66 yX3_isValid, Cond.methodLink RX6 257 yX6_writeBlock, Cond.instanceMethod yX6_writeBlock, Cond.selects RX6 yX6_writeBlock yX6_writeBlock, Cond.code yX6_writeBlock cX6_writeBlock 4 none, Cond.constantDouble RX6 229 (4665729213955833856), Cond.fieldLink RX6 53 "CellKeeper" "blocks" "LCellKeeper$Blocks;"]
def wsL_tick_r10 : List Cond := [Cond.fieldLink RX6 152 "CellKeeper$Alarms" "latched" "I", Cond.methodLink RX6 349 yX1_write, Cond.instanceMethod yX1_write, Cond.selects RX1 yX1_write yX1_write, Cond.initialized RX1, Cond.code yX1_write cX1_write 8 (some .boolean), Cond.fieldLink RX1 20 "CellKeeper$Blocks" "next" "I", Cond.fieldLink RX1 9 "CellKeeper$Blocks" "draft" "[B", Cond.fieldLink RX1 23 "CellKeeper$Blocks" "limit" "I", Cond.fieldLink RX1 17 "CellKeeper$Blocks" "bytes" "[B", Cond.methodLink RX1 26 yX1_lay, Cond.instanceMethod yX1_lay, Cond.selects RX1 yX1_lay yX1_lay, Cond.code yX1_lay cX1_lay 6 none, Cond.methodLink RX1 30 yX2_ofRow, Cond.static yX2_ofRow, Cond.initialized RX2, Cond.code yX2_ofRow cX2_ofRow 6 (some .int), Cond.methodLink RX2 13 Lib.Math.min.name, Cond.methodLink RX2 18 Lib.Math.max.name, Cond.methodLink RX2 7 yX2_withByte, Cond.static yX2_withByte, Cond.code yX2_withByte cX2_withByte 5 (some .int), Cond.methodLink RX1 36 yX1_placeOf]
def wsL_tick_r11 : List Cond := [Cond.instanceMethod yX1_placeOf, Cond.selects RX1 yX1_placeOf yX1_placeOf, Cond.code yX1_placeOf cX1_placeOf 2 (some .int), Cond.fieldLink RX1 13 "CellKeeper$Blocks" "places" "I", Cond.methodLink RX1 40 yJ9_floorMod_7cf53, Cond.static yJ9_floorMod_7cf53, Cond.initialized RJ9, Cond.code yJ9_floorMod_7cf53 cJ9_floorMod_7cf53 3 (some .int)]
def wsL_tick : List Cond := .codeWith yL_tick cL_tick 4 (some .int) [(0, 9, 12, 21), (0, 9, 15, 15)] :: ((wsL_tick_r1 ++ (wsL_tick_r2 ++ (wsL_tick_r3 ++ (wsL_tick_r4 ++ (wsL_tick_r5 ++ (wsL_tick_r6 ++ (wsL_tick_r7 ++ (wsL_tick_r8 ++ (wsL_tick_r9 ++ (wsL_tick_r10 ++ wsL_tick_r11)))))))))) ++ wsX60 ++ wsX40 ++ wsX30 ++ wsX00 ++ wsX50 ++ wsX10 ++ (vx_atS RX6 210 "java/lang/IllegalArgumentException" ["java/lang/RuntimeException", "java/lang/Exception"]).filter goodWord ++ (vx_atS RX6 198 "java/lang/IllegalStateException" ["java/lang/RuntimeException", "java/lang/Exception"]).filter goodWord)
def wsL_reset_r1 : List Cond := [Cond.classLink RL 13 "java/lang/IndexOutOfBoundsException", Cond.classLink RL 15 "java/lang/IllegalStateException", Cond.methodLink RL 42 yX6_reset, Cond.instanceMethod yX6_reset, Cond.selects RX6 yX6_reset yX6_reset, Cond.initialized RX6, Cond.code yX6_reset cX6_reset 2 (some .boolean), Cond.fieldLink RX6 39 "CellKeeper" "alarms" "LCellKeeper$Alarms;", Cond.fieldLink RX6 46 "CellKeeper" "contactors" "LCellKeeper$Contactors;", Cond.fieldLink RX6 110 "CellKeeper$Contactors" "state" "I", Cond.methodLink RX6 113 yX6_needIndex, Cond.static yX6_needIndex, Cond.code yX6_needIndex cX6_needIndex 2 none, Cond.classLink RX6 201 "java/lang/IndexOutOfBoundsException", Cond.initialized "java/lang/IndexOutOfBoundsException", Cond.methodLink RX6 69 yX6_needPower, Cond.instanceMethod yX6_needPower, Cond.selects RX6 yX6_needPower yX6_needPower, Cond.code yX6_needPower cX6_needPower 1 none, Cond.classLink RX6 194 "java/lang/IllegalStateException", Cond.initialized "java/lang/IllegalStateException", Cond.fieldLink RX6 104 "CellKeeper" "dark" "Z", Cond.methodLink RX6 117 yX0_dismiss, Cond.instanceMethod yX0_dismiss]
def wsL_reset_r2 : List Cond := [Cond.selects RX0 yX0_dismiss yX0_dismiss, Cond.initialized RX0, Cond.code yX0_dismiss cX0_dismiss 4 (some .boolean), Cond.fieldLink RX0 9 "CellKeeper$Alarms" "counts" "[I", Cond.fieldLink RX0 17 "CellKeeper$Alarms" "latched" "I", Cond.methodLink RX0 34 yX0_isLatched, Cond.instanceMethod yX0_isLatched, Cond.selects RX0 yX0_isLatched yX0_isLatched, Cond.code yX0_isLatched cX0_isLatched 2 (some .boolean)]
def wsL_reset : List Cond := .codeWith yL_reset cL_reset 4 (some .int) [(0, 16, 19, 13), (0, 16, 22, 15)] :: ((wsL_reset_r1 ++ wsL_reset_r2) ++ wsX60 ++ wsX40 ++ wsX00 ++ (vx_atS RX6 205 "java/lang/IndexOutOfBoundsException" ["java/lang/RuntimeException", "java/lang/Exception"]).filter goodWord ++ (vx_atS RX6 198 "java/lang/IllegalStateException" ["java/lang/RuntimeException", "java/lang/Exception"]).filter goodWord)
def wsL_cut : List Cond := .codeWith yL_cut cL_cut 3 (some .int) [(0, 5, 8, 21), (0, 5, 11, 15)] :: ([.classLink RL 21 "java/lang/IllegalArgumentException", .classLink RL 15 "java/lang/IllegalStateException", .methodLink RL 46 yX6_cut, .instanceMethod yX6_cut, .selects RX6 yX6_cut yX6_cut, .initialized RX6, .code yX6_cut cX6_cut 2 none, .fieldLink RX6 53 "CellKeeper" "blocks" "LCellKeeper$Blocks;", .fieldLink RX6 121 "CellKeeper$Blocks" "limit" "I", .methodLink RX6 90 yX6_needWhole, .static yX6_needWhole, .code yX6_needWhole cX6_needWhole 3 none, .classLink RX6 206 "java/lang/IllegalArgumentException", .initialized "java/lang/IllegalArgumentException", .methodLink RX6 69 yX6_needPower, .instanceMethod yX6_needPower, .selects RX6 yX6_needPower yX6_needPower, .code yX6_needPower cX6_needPower 1 none, .classLink RX6 194 "java/lang/IllegalStateException", .initialized "java/lang/IllegalStateException", .fieldLink RX6 104 "CellKeeper" "dark" "Z"] ++ wsX60 ++ wsX10 ++ (vx_atS RX6 210 "java/lang/IllegalArgumentException" ["java/lang/RuntimeException", "java/lang/Exception"]).filter goodWord ++ (vx_atS RX6 198 "java/lang/IllegalStateException" ["java/lang/RuntimeException", "java/lang/Exception"]).filter goodWord)
def wsL_time : List Cond := .codeWith yL_time cL_time 3 (some .int) [(0, 8, 11, 15)] :: ([.classLink RL 15 "java/lang/IllegalStateException", .methodLink RL 49 yX6_time, .instanceMethod yX6_time, .selects RX6 yX6_time yX6_time, .initialized RX6, .code yX6_time cX6_time 1 (some .int), .fieldLink RX6 138 "CellKeeper" "time" "I", .methodLink RX6 69 yX6_needPower, .instanceMethod yX6_needPower, .selects RX6 yX6_needPower yX6_needPower, .code yX6_needPower cX6_needPower 1 none, .classLink RX6 194 "java/lang/IllegalStateException", .initialized "java/lang/IllegalStateException", .fieldLink RX6 104 "CellKeeper" "dark" "Z"] ++ wsX60 ++ (vx_atS RX6 198 "java/lang/IllegalStateException" ["java/lang/RuntimeException", "java/lang/Exception"]).filter goodWord)
def wsL_charge : List Cond := .codeWith yL_charge cL_charge 3 (some .int) [(0, 7, 10, 15)] :: ([.classLink RL 15 "java/lang/IllegalStateException", .methodLink RL 53 yX6_charge, .instanceMethod yX6_charge, .selects RX6 yX6_charge yX6_charge, .initialized RX6, .code yX6_charge cX6_charge 1 (some .double), .fieldLink RX6 101 "CellKeeper" "charge" "D", .methodLink RX6 69 yX6_needPower, .instanceMethod yX6_needPower, .selects RX6 yX6_needPower yX6_needPower, .code yX6_needPower cX6_needPower 1 none, .classLink RX6 194 "java/lang/IllegalStateException", .initialized "java/lang/IllegalStateException", .fieldLink RX6 104 "CellKeeper" "dark" "Z"] ++ wsX60 ++ (vx_atS RX6 198 "java/lang/IllegalStateException" ["java/lang/RuntimeException", "java/lang/Exception"]).filter goodWord)
def wsL_percent : List Cond := .codeWith yL_percent cL_percent 3 (some .int) [(0, 8, 11, 15)] :: ([.classLink RL 15 "java/lang/IllegalStateException", .methodLink RL 57 yX6_percent, .instanceMethod yX6_percent, .selects RX6 yX6_percent yX6_percent, .initialized RX6, .code yX6_percent cX6_percent 1 (some .int), .constantDouble RX6 155 (4636737291354636288), .fieldLink RX6 101 "CellKeeper" "charge" "D", .methodLink RX6 69 yX6_needPower, .instanceMethod yX6_needPower, .selects RX6 yX6_needPower yX6_needPower, .code yX6_needPower cX6_needPower 1 none, .classLink RX6 194 "java/lang/IllegalStateException", .initialized "java/lang/IllegalStateException", .fieldLink RX6 104 "CellKeeper" "dark" "Z", .methodLink RX6 157 yX6_wholeCapacities, .instanceMethod yX6_wholeCapacities, .selects RX6 yX6_wholeCapacities yX6_wholeCapacities, .code yX6_wholeCapacities cX6_wholeCapacities 4 (some .int), .fieldLink RX6 20 "CellKeeper" "capacity" "I"] ++ wsX60 ++ (vx_atS RX6 198 "java/lang/IllegalStateException" ["java/lang/RuntimeException", "java/lang/Exception"]).filter goodWord)
def wsL_through : List Cond := .codeWith yL_through cL_through 3 (some .int) [(0, 7, 10, 15)] :: ([.classLink RL 15 "java/lang/IllegalStateException", .methodLink RL 60 yX6_through, .instanceMethod yX6_through, .selects RX6 yX6_through yX6_through, .initialized RX6, .code yX6_through cX6_through 1 (some .double), .fieldLink RX6 161 "CellKeeper" "through" "D", .methodLink RX6 69 yX6_needPower, .instanceMethod yX6_needPower, .selects RX6 yX6_needPower yX6_needPower, .code yX6_needPower cX6_needPower 1 none, .classLink RX6 194 "java/lang/IllegalStateException", .initialized "java/lang/IllegalStateException", .fieldLink RX6 104 "CellKeeper" "dark" "Z"] ++ wsX60 ++ (vx_atS RX6 198 "java/lang/IllegalStateException" ["java/lang/RuntimeException", "java/lang/Exception"]).filter goodWord)
def wsL_allowed : List Cond := .codeWith yL_allowed cL_allowed 4 (some .int) [(0, 8, 11, 15)] :: ([.classLink RL 15 "java/lang/IllegalStateException", .methodLink RL 63 yX6_allowed, .instanceMethod yX6_allowed, .selects RX6 yX6_allowed yX6_allowed, .initialized RX6, .code yX6_allowed cX6_allowed 2 (some .double), .fieldLink RX6 164 "CellKeeper" "mayTake" "D", .fieldLink RX6 167 "CellKeeper" "mayGive" "D", .methodLink RX6 69 yX6_needPower, .instanceMethod yX6_needPower, .selects RX6 yX6_needPower yX6_needPower, .code yX6_needPower cX6_needPower 1 none, .classLink RX6 194 "java/lang/IllegalStateException", .initialized "java/lang/IllegalStateException", .fieldLink RX6 104 "CellKeeper" "dark" "Z"] ++ wsX60 ++ (vx_atS RX6 198 "java/lang/IllegalStateException" ["java/lang/RuntimeException", "java/lang/Exception"]).filter goodWord)
def wsL_valid_r1 : List Cond := [Cond.classLink RL 13 "java/lang/IndexOutOfBoundsException", Cond.classLink RL 15 "java/lang/IllegalStateException", Cond.methodLink RL 67 yX6_valid, Cond.instanceMethod yX6_valid, Cond.selects RX6 yX6_valid yX6_valid, Cond.initialized RX6, Cond.code yX6_valid cX6_valid 3 (some .boolean), Cond.fieldLink RX6 15 "CellKeeper" "chain" "[LCellKeeper$Chip;", Cond.methodLink RX6 66 yX6_needChip, Cond.instanceMethod yX6_needChip, Cond.selects RX6 yX6_needChip yX6_needChip, Cond.code yX6_needChip cX6_needChip 2 none, Cond.methodLink RX6 113 yX6_needIndex, Cond.static yX6_needIndex, Cond.code yX6_needIndex cX6_needIndex 2 none, Cond.classLink RX6 201 "java/lang/IndexOutOfBoundsException", Cond.initialized "java/lang/IndexOutOfBoundsException", Cond.methodLink RX6 69 yX6_needPower, Cond.instanceMethod yX6_needPower, Cond.selects RX6 yX6_needPower yX6_needPower, Cond.code yX6_needPower cX6_needPower 1 none, Cond.classLink RX6 194 "java/lang/IllegalStateException", Cond.initialized "java/lang/IllegalStateException", Cond.fieldLink RX6 104 "CellKeeper" "dark" "Z"]
def wsL_valid_r2 : List Cond := [Cond.methodLink RX6 170 yX3_isValid, Cond.instanceMethod yX3_isValid, Cond.selects RX3 yX3_isValid yX3_isValid, Cond.initialized RX3, Cond.code yX3_isValid cX3_isValid 2 (some .boolean), Cond.fieldLink RX3 9 "CellKeeper$Chip" "numbers" "[I", Cond.fieldLink RX3 22 "CellKeeper$Chip" "status" "I", Cond.methodLink RX3 53 yX3_isStale, Cond.instanceMethod yX3_isStale, Cond.selects RX3 yX3_isStale yX3_isStale, Cond.code yX3_isStale cX3_isStale 1 (some .boolean), Cond.fieldLink RX3 26 "CellKeeper$Chip" "used" "I", Cond.fieldLink RX3 29 "CellKeeper$Chip" "age" "I", Cond.methodLink RX3 57 yX3_isStuck, Cond.instanceMethod yX3_isStuck, Cond.selects RX3 yX3_isStuck yX3_isStuck, Cond.code yX3_isStuck cX3_isStuck 2 (some .boolean), Cond.fieldLink RX3 15 "CellKeeper$Chip" "alike" "[I", Cond.methodLink RX3 61 yX3_currentsSwing, Cond.instanceMethod yX3_currentsSwing, Cond.selects RX3 yX3_currentsSwing yX3_currentsSwing, Cond.code yX3_currentsSwing cX3_currentsSwing 10 (some .boolean), Cond.fieldLink RX3 18 "CellKeeper$Chip" "currents" "[D", Cond.constantDouble RX3 64 (4620693217682128896)]
def wsL_valid : List Cond := .codeWith yL_valid cL_valid 5 (some .int) [(0, 17, 20, 13), (0, 17, 24, 15)] :: ((wsL_valid_r1 ++ wsL_valid_r2) ++ wsX60 ++ wsX30 ++ (vx_atS RX6 205 "java/lang/IndexOutOfBoundsException" ["java/lang/RuntimeException", "java/lang/Exception"]).filter goodWord ++ (vx_atS RX6 198 "java/lang/IllegalStateException" ["java/lang/RuntimeException", "java/lang/Exception"]).filter goodWord)
def wsL_bleeding_r1 : List Cond := [Cond.classLink RL 13 "java/lang/IndexOutOfBoundsException", Cond.classLink RL 15 "java/lang/IllegalStateException", Cond.methodLink RL 71 yX6_bleeding, Cond.instanceMethod yX6_bleeding, Cond.selects RX6 yX6_bleeding yX6_bleeding, Cond.initialized RX6, Cond.code yX6_bleeding cX6_bleeding 2 (some .int), Cond.fieldLink RX6 15 "CellKeeper" "chain" "[LCellKeeper$Chip;", Cond.fieldLink RX6 174 "CellKeeper$Chip" "bleeds" "I", Cond.methodLink RX6 66 yX6_needChip, Cond.instanceMethod yX6_needChip, Cond.selects RX6 yX6_needChip yX6_needChip, Cond.code yX6_needChip cX6_needChip 2 none, Cond.methodLink RX6 113 yX6_needIndex, Cond.static yX6_needIndex, Cond.code yX6_needIndex cX6_needIndex 2 none, Cond.classLink RX6 201 "java/lang/IndexOutOfBoundsException", Cond.initialized "java/lang/IndexOutOfBoundsException", Cond.methodLink RX6 69 yX6_needPower, Cond.instanceMethod yX6_needPower, Cond.selects RX6 yX6_needPower yX6_needPower, Cond.code yX6_needPower cX6_needPower 1 none, Cond.classLink RX6 194 "java/lang/IllegalStateException", Cond.initialized "java/lang/IllegalStateException"]
def wsL_bleeding_r2 : List Cond := [Cond.fieldLink RX6 104 "CellKeeper" "dark" "Z"]
def wsL_bleeding : List Cond := .codeWith yL_bleeding cL_bleeding 4 (some .int) [(0, 9, 12, 13), (0, 9, 15, 15)] :: ((wsL_bleeding_r1 ++ wsL_bleeding_r2) ++ wsX60 ++ wsX30 ++ (vx_atS RX6 205 "java/lang/IndexOutOfBoundsException" ["java/lang/RuntimeException", "java/lang/Exception"]).filter goodWord ++ (vx_atS RX6 198 "java/lang/IllegalStateException" ["java/lang/RuntimeException", "java/lang/Exception"]).filter goodWord)
def wsL_faults : List Cond := .codeWith yL_faults cL_faults 3 (some .int) [(0, 8, 11, 15)] :: ([.classLink RL 15 "java/lang/IllegalStateException", .methodLink RL 74 yX6_faults, .instanceMethod yX6_faults, .selects RX6 yX6_faults yX6_faults, .initialized RX6, .code yX6_faults cX6_faults 1 (some .int), .fieldLink RX6 39 "CellKeeper" "alarms" "LCellKeeper$Alarms;", .fieldLink RX6 152 "CellKeeper$Alarms" "latched" "I", .methodLink RX6 69 yX6_needPower, .instanceMethod yX6_needPower, .selects RX6 yX6_needPower yX6_needPower, .code yX6_needPower cX6_needPower 1 none, .classLink RX6 194 "java/lang/IllegalStateException", .initialized "java/lang/IllegalStateException", .fieldLink RX6 104 "CellKeeper" "dark" "Z"] ++ wsX60 ++ wsX00 ++ (vx_atS RX6 198 "java/lang/IllegalStateException" ["java/lang/RuntimeException", "java/lang/Exception"]).filter goodWord)
def wsL_count : List Cond := .codeWith yL_count cL_count 4 (some .int) [(0, 9, 12, 13), (0, 9, 15, 15)] :: ([.classLink RL 13 "java/lang/IndexOutOfBoundsException", .classLink RL 15 "java/lang/IllegalStateException", .methodLink RL 77 yX6_count, .instanceMethod yX6_count, .selects RX6 yX6_count yX6_count, .initialized RX6, .code yX6_count cX6_count 2 (some .int), .fieldLink RX6 39 "CellKeeper" "alarms" "LCellKeeper$Alarms;", .fieldLink RX6 177 "CellKeeper$Alarms" "counts" "[I", .methodLink RX6 113 yX6_needIndex, .static yX6_needIndex, .code yX6_needIndex cX6_needIndex 2 none, .classLink RX6 201 "java/lang/IndexOutOfBoundsException", .initialized "java/lang/IndexOutOfBoundsException", .methodLink RX6 69 yX6_needPower, .instanceMethod yX6_needPower, .selects RX6 yX6_needPower yX6_needPower, .code yX6_needPower cX6_needPower 1 none, .classLink RX6 194 "java/lang/IllegalStateException", .initialized "java/lang/IllegalStateException", .fieldLink RX6 104 "CellKeeper" "dark" "Z"] ++ wsX60 ++ wsX00 ++ (vx_atS RX6 205 "java/lang/IndexOutOfBoundsException" ["java/lang/RuntimeException", "java/lang/Exception"]).filter goodWord ++ (vx_atS RX6 198 "java/lang/IllegalStateException" ["java/lang/RuntimeException", "java/lang/Exception"]).filter goodWord)
def wsL_journal : List Cond := .codeWith yL_journal cL_journal 4 (some .int) [(0, 9, 12, 13)] :: ([.classLink RL 13 "java/lang/IndexOutOfBoundsException", .methodLink RL 80 yX6_journal, .instanceMethod yX6_journal, .selects RX6 yX6_journal yX6_journal, .initialized RX6, .code yX6_journal cX6_journal 2 (some .int), .fieldLink RX6 53 "CellKeeper" "blocks" "LCellKeeper$Blocks;", .fieldLink RX6 181 "CellKeeper$Blocks" "bytes" "[B", .methodLink RX6 113 yX6_needIndex, .static yX6_needIndex, .code yX6_needIndex cX6_needIndex 2 none, .classLink RX6 201 "java/lang/IndexOutOfBoundsException", .initialized "java/lang/IndexOutOfBoundsException"] ++ wsX60 ++ wsX10 ++ (vx_atS RX6 205 "java/lang/IndexOutOfBoundsException" ["java/lang/RuntimeException", "java/lang/Exception"]).filter goodWord)
def wsL_spoil : List Cond := .codeWith yL_spoil cL_spoil 4 (some .int) [(0, 6, 9, 13), (0, 6, 12, 21)] :: ([.classLink RL 13 "java/lang/IndexOutOfBoundsException", .classLink RL 21 "java/lang/IllegalArgumentException", .methodLink RL 83 yX6_spoil, .instanceMethod yX6_spoil, .selects RX6 yX6_spoil yX6_spoil, .initialized RX6, .code yX6_spoil cX6_spoil 3 none, .fieldLink RX6 53 "CellKeeper" "blocks" "LCellKeeper$Blocks;", .fieldLink RX6 181 "CellKeeper$Blocks" "bytes" "[B", .methodLink RX6 113 yX6_needIndex, .static yX6_needIndex, .code yX6_needIndex cX6_needIndex 2 none, .classLink RX6 201 "java/lang/IndexOutOfBoundsException", .initialized "java/lang/IndexOutOfBoundsException", .methodLink RX6 90 yX6_needWhole, .static yX6_needWhole, .code yX6_needWhole cX6_needWhole 3 none, .classLink RX6 206 "java/lang/IllegalArgumentException", .initialized "java/lang/IllegalArgumentException"] ++ wsX60 ++ wsX10 ++ (vx_atS RX6 205 "java/lang/IndexOutOfBoundsException" ["java/lang/RuntimeException", "java/lang/Exception"]).filter goodWord ++ (vx_atS RX6 210 "java/lang/IllegalArgumentException" ["java/lang/RuntimeException", "java/lang/Exception"]).filter goodWord)
def wsL_law0_r1 : List Cond := [Cond.classLink RL 8 RX6, Cond.instantiable RX6 17, Cond.initialized RX6, Cond.classLink RL 96 RX7, Cond.instantiable RX7 32, Cond.initialized RX7, Cond.arrayClass .long, Cond.arrayClass .double, Cond.constantLong RL 103 (4294967295), Cond.constantDouble RL 117 (4593671619917905920), Cond.methodLink RL 87 yL_cell, Cond.static yL_cell, Cond.initialized RL, Cond.code yL_cell cL_cell 2 (some .int), Cond.methodLink RL 93 yX6_init, Cond.instanceMethod yX6_init, Cond.code yX6_init cX6_init 7 none, Cond.methodLink RX6 1 objectInit, Cond.instanceMethod objectInit, Cond.code objectInit ⟨#[0xb1]⟩ 1 none, Cond.classLink RX6 13 RX3, Cond.fieldLink RX6 15 "CellKeeper" "chain" "[LCellKeeper$Chip;", Cond.instantiable RX3 8, Cond.initialized RX3]
def wsL_law0_r2 : List Cond := [Cond.fieldLink RX6 20 "CellKeeper" "capacity" "I", Cond.fieldLink RX6 24 "CellKeeper" "every" "I", Cond.classLink RX6 27 RX5, Cond.instantiable RX5 7, Cond.initialized RX5, Cond.fieldLink RX6 30 "CellKeeper" "survey" "LCellKeeper$Survey;", Cond.classLink RX6 34 RX0, Cond.instantiable RX0 4, Cond.initialized RX0, Cond.fieldLink RX6 39 "CellKeeper" "alarms" "LCellKeeper$Alarms;", Cond.classLink RX6 43 RX4, Cond.instantiable RX4 2, Cond.initialized RX4, Cond.fieldLink RX6 46 "CellKeeper" "contactors" "LCellKeeper$Contactors;", Cond.classLink RX6 50 RX1, Cond.instantiable RX1 5, Cond.initialized RX1, Cond.fieldLink RX6 53 "CellKeeper" "blocks" "LCellKeeper$Blocks;", Cond.methodLink RX6 7 yX6_nearest, Cond.static yX6_nearest, Cond.code yX6_nearest cX6_nearest 3 (some .int), Cond.methodLink RX6 185 Lib.Math.min.name, Cond.static Lib.Math.min.name, Cond.initialized "java/lang/Math"]
def wsL_law0_r3 : List Cond := [Cond.code Lib.Math.min.name Lib.Math.min.code 2 (some .int), Cond.methodLink RX6 191 Lib.Math.max.name, Cond.static Lib.Math.max.name, Cond.code Lib.Math.max.name Lib.Math.max.code 2 (some .int), Cond.instanceMethod yX3_init, Cond.code yX3_init cX3_init 1 none, Cond.methodLink RX3 3 objectInit, Cond.arrayClass .int, Cond.fieldLink RX3 9 "CellKeeper$Chip" "numbers" "[I", Cond.fieldLink RX3 15 "CellKeeper$Chip" "alike" "[I", Cond.fieldLink RX3 18 "CellKeeper$Chip" "currents" "[D", Cond.instanceMethod yX5_init, Cond.code yX5_init cX5_init 1 none, Cond.methodLink RX5 3 objectInit, Cond.methodLink RX6 36 yX0_init, Cond.instanceMethod yX0_init, Cond.code yX0_init cX0_init 2 none, Cond.methodLink RX0 1 objectInit, Cond.fieldLink RX0 9 "CellKeeper$Alarms" "counts" "[I", Cond.fieldLink RX0 13 "CellKeeper$Alarms" "debounce" "I", Cond.instanceMethod yX4_init, Cond.code yX4_init cX4_init 1 none, Cond.methodLink RX4 1 objectInit, Cond.methodLink RX6 52 yX1_init]
def wsL_law0_r4 : List Cond := [Cond.instanceMethod yX1_init, Cond.code yX1_init cX1_init 2 none, Cond.methodLink RX1 1 objectInit, Cond.arrayClass .byte, Cond.fieldLink RX1 9 "CellKeeper$Blocks" "draft" "[B", Cond.fieldLink RX1 13 "CellKeeper$Blocks" "places" "I", Cond.fieldLink RX1 17 "CellKeeper$Blocks" "bytes" "[B", Cond.methodLink RX6 57 yX6_beginAnew, Cond.instanceMethod yX6_beginAnew, Cond.selects RX6 yX6_beginAnew yX6_beginAnew, Cond.code yX6_beginAnew cX6_beginAnew 5 none, Cond.fieldLink RX6 104 "CellKeeper" "dark" "Z", Cond.fieldLink RX6 138 "CellKeeper" "time" "I", Cond.fieldLink RX6 101 "CellKeeper" "charge" "D", Cond.fieldLink RX6 161 "CellKeeper" "through" "D", Cond.fieldLink RX6 215 "CellKeeper" "rest" "I", Cond.fieldLink RX6 74 "CellKeeper" "amperes" "D", Cond.fieldLink RX6 94 "CellKeeper" "bus" "I", Cond.fieldLink RX6 97 "CellKeeper" "wanted" "Z", Cond.fieldLink RX6 167 "CellKeeper" "mayGive" "D", Cond.fieldLink RX6 164 "CellKeeper" "mayTake" "D", Cond.methodLink RX6 218 yX3_beginAnew, Cond.instanceMethod yX3_beginAnew, Cond.selects RX3 yX3_beginAnew yX3_beginAnew]
def wsL_law0_r5 : List Cond := [Cond.code yX3_beginAnew cX3_beginAnew 1 none, Cond.fieldLink RX3 22 "CellKeeper$Chip" "status" "I", Cond.fieldLink RX3 26 "CellKeeper$Chip" "used" "I", Cond.fieldLink RX3 29 "CellKeeper$Chip" "age" "I", Cond.constantDouble RX3 32 (4626322717216342016), Cond.fieldLink RX3 34 "CellKeeper$Chip" "degrees" "D", Cond.fieldLink RX3 38 "CellKeeper$Chip" "bleeds" "I", Cond.methodLink RX6 219 yX0_beginAnew, Cond.instanceMethod yX0_beginAnew, Cond.selects RX0 yX0_beginAnew yX0_beginAnew, Cond.code yX0_beginAnew cX0_beginAnew 2 none, Cond.fieldLink RX0 17 "CellKeeper$Alarms" "latched" "I", Cond.fieldLink RX0 20 "CellKeeper$Alarms" "fresh" "Z", Cond.methodLink RX6 220 yX4_beginAnew, Cond.instanceMethod yX4_beginAnew, Cond.selects RX4 yX4_beginAnew yX4_beginAnew, Cond.code yX4_beginAnew cX4_beginAnew 1 none, Cond.fieldLink RX4 9 "CellKeeper$Contactors" "state" "I", Cond.fieldLink RX4 13 "CellKeeper$Contactors" "ticks" "I", Cond.methodLink RX6 221 yX1_beginAnew, Cond.instanceMethod yX1_beginAnew, Cond.selects RX1 yX1_beginAnew yX1_beginAnew, Cond.code yX1_beginAnew cX1_beginAnew 1 none, Cond.fieldLink RX1 20 "CellKeeper$Blocks" "next" "I"]
def wsL_law0_r6 : List Cond := [Cond.fieldLink RX1 23 "CellKeeper$Blocks" "limit" "I", Cond.methodLink RL 98 yX7_init, Cond.instanceMethod yX7_init, Cond.code yX7_init cX7_init 6 none, Cond.methodLink RX7 1 objectInit, Cond.fieldLink RX7 7 "CellKeeperModel" "journal" "[I", Cond.fieldLink RX7 13 "CellKeeperModel" "block" "[I", Cond.fieldLink RX7 16 "CellKeeperModel" "warm" "[J", Cond.fieldLink RX7 20 "CellKeeperModel" "numbers" "[I", Cond.fieldLink RX7 23 "CellKeeperModel" "currents" "[J", Cond.fieldLink RX7 26 "CellKeeperModel" "status" "[I", Cond.fieldLink RX7 29 "CellKeeperModel" "used" "[I", Cond.fieldLink RX7 32 "CellKeeperModel" "age" "[I", Cond.fieldLink RX7 35 "CellKeeperModel" "counts" "[I", Cond.fieldLink RX7 38 "CellKeeperModel" "bleeding" "[I", Cond.fieldLink RX7 41 "CellKeeperModel" "cut" "I", Cond.fieldLink RX7 49 "CellKeeperModel" "chips" "I", Cond.fieldLink RX7 52 "CellKeeperModel" "blocks" "I", Cond.constantLong RX7 55 (100), Cond.fieldLink RX7 57 "CellKeeperModel" "capacity" "J", Cond.fieldLink RX7 61 "CellKeeperModel" "debounce" "I", Cond.fieldLink RX7 64 "CellKeeperModel" "every" "I", Cond.methodLink RX7 45 yX7_nearest, Cond.static yX7_nearest]
def wsL_law0_r7 : List Cond := [Cond.code yX7_nearest cX7_nearest 3 (some .int), Cond.methodLink RX7 67 yX7_begin, Cond.instanceMethod yX7_begin, Cond.selects RX7 yX7_begin yX7_begin, Cond.code yX7_begin cX7_begin 3 none, Cond.fieldLink RX7 85 "CellKeeperModel" "off" "Z", Cond.fieldLink RX7 253 "CellKeeperModel" "time" "I", Cond.fieldLink RX7 112 "CellKeeperModel" "charge" "J", Cond.fieldLink RX7 144 "CellKeeperModel" "through" "J", Cond.fieldLink RX7 92 "CellKeeperModel" "current" "J", Cond.fieldLink RX7 106 "CellKeeperModel" "bus" "I", Cond.fieldLink RX7 109 "CellKeeperModel" "wanted" "Z", Cond.fieldLink RX7 155 "CellKeeperModel" "rest" "I", Cond.fieldLink RX7 205 "CellKeeperModel" "given" "J", Cond.fieldLink RX7 210 "CellKeeperModel" "taken" "J", Cond.fieldLink RX7 224 "CellKeeperModel" "faults" "I", Cond.fieldLink RX7 234 "CellKeeperModel" "state" "I", Cond.fieldLink RX7 237 "CellKeeperModel" "stateTicks" "I", Cond.fieldLink RX7 256 "CellKeeperModel" "next" "I", Cond.constantLong RX7 287 (160), Cond.constantLong RX7 140 (8192), Cond.methodLink RX7 289 yX7_isRight, Cond.instanceMethod yX7_isRight, Cond.selects RX7 yX7_isRight yX7_isRight]
def wsL_law0_r8 : List Cond := [Cond.code yX7_isRight cX7_isRight 5 (some .boolean), Cond.constantLong RX7 285 (1000000000), Cond.methodLink RX7 77 yX7_checked, Cond.static yX7_checked, Cond.code yX7_checked cX7_checked 5 (some .int), Cond.methodLink RX7 281 yX7_number, Cond.instanceMethod yX7_number, Cond.selects RX7 yX7_number yX7_number, Cond.code yX7_number cX7_number 6 (some .long), Cond.methodLink RL 99 yX6_chips, Cond.instanceMethod yX6_chips, Cond.selects RX6 yX6_chips yX6_chips, Cond.code yX6_chips cX6_chips 1 (some .int), Cond.methodLink RL 102 yX7_chips, Cond.instanceMethod yX7_chips, Cond.selects RX7 yX7_chips yX7_chips, Cond.code yX7_chips cX7_chips 1 (some .int), Cond.fieldLink RX7 70 "CellKeeperModel" "thrown" "I", Cond.methodLink RL 105 yX6_seal, Cond.instanceMethod yX6_seal, Cond.selects RX6 yX6_seal yX6_seal, Cond.code yX6_seal cX6_seal 5 (some .int), Cond.methodLink RX6 60 yX2_ofReply, Cond.static yX2_ofReply]
def wsL_law0_r9 : List Cond := [Cond.initialized RX2, Cond.code yX2_ofReply cX2_ofReply 6 (some .int), Cond.methodLink RX2 7 yX2_withByte, Cond.static yX2_withByte, Cond.code yX2_withByte cX2_withByte 5 (some .int), Cond.methodLink RL 109 yX7_seal, Cond.instanceMethod yX7_seal, Cond.selects RX7 yX7_seal yX7_seal, Cond.code yX7_seal cX7_seal 5 (some .int), Cond.methodLink RX7 81 yX7_sealOf, Cond.static yX7_sealOf, Cond.code yX7_sealOf cX7_sealOf 6 (some .int), Cond.methodLink RX7 73 yX7_byteOf, Cond.static yX7_byteOf, Cond.code yX7_byteOf cX7_byteOf 5 (some .int), Cond.methodLink RL 110 yL_reply, Cond.static yL_reply, Cond.codeWith yL_reply cL_reply 8 (some .int) [(0, 20, 23, 13), (0, 20, 27, 15)], Cond.classLink RL 13 "java/lang/IndexOutOfBoundsException", Cond.classLink RL 15 "java/lang/IllegalStateException", Cond.methodLink RL 7 yX6_reply, Cond.instanceMethod yX6_reply, Cond.selects RX6 yX6_reply yX6_reply, Cond.code yX6_reply cX6_reply 6 (some .boolean)]
def wsL_law0_r10 : List Cond := [Cond.constantLong RX6 72 (65535), Cond.methodLink RX6 66 yX6_needChip, Cond.instanceMethod yX6_needChip, Cond.selects RX6 yX6_needChip yX6_needChip, Cond.code yX6_needChip cX6_needChip 2 none, Cond.methodLink RX6 113 yX6_needIndex, Cond.static yX6_needIndex, Cond.code yX6_needIndex cX6_needIndex 2 none, Cond.classLink RX6 201 "java/lang/IndexOutOfBoundsException", Cond.initialized "java/lang/IndexOutOfBoundsException", Cond.methodLink RX6 69 yX6_needPower, Cond.instanceMethod yX6_needPower, Cond.selects RX6 yX6_needPower yX6_needPower, Cond.code yX6_needPower cX6_needPower 1 none, Cond.classLink RX6 194 "java/lang/IllegalStateException", Cond.initialized "java/lang/IllegalStateException", Cond.methodLink RX6 78 yX3_take, Cond.instanceMethod yX3_take, Cond.selects RX3 yX3_take yX3_take, Cond.code yX3_take cX3_take 10 none, Cond.constantLong RX3 45 (65535), Cond.methodLink RX3 41 yX3_numberIn, Cond.static yX3_numberIn, Cond.code yX3_numberIn cX3_numberIn 7 (some .int)]
def wsL_law0_r11 : List Cond := [Cond.methodLink RX3 47 yJ9_floorMod_7cf53, Cond.static yJ9_floorMod_7cf53, Cond.initialized RJ9, Cond.code yJ9_floorMod_7cf53 cJ9_floorMod_7cf53 3 (some .int), Cond.methodLink RL 113 yX7_reply, Cond.instanceMethod yX7_reply, Cond.selects RX7 yX7_reply yX7_reply, Cond.code yX7_reply cX7_reply 8 (some .boolean), Cond.methodLink RX7 89 yX7_two, Cond.static yX7_two, Cond.code yX7_two cX7_two 5 (some .int), Cond.methodLink RL 114 yX7_thrown, Cond.instanceMethod yX7_thrown, Cond.selects RX7 yX7_thrown yX7_thrown, Cond.code yX7_thrown cX7_thrown 1 (some .int), Cond.methodLink RL 119 yL_current, Cond.static yL_current, Cond.codeWith yL_current cL_current 4 (some .int) [(0, 5, 8, 21), (0, 5, 11, 15)], Cond.classLink RL 21 "java/lang/IllegalArgumentException", Cond.methodLink RL 17 yX6_current, Cond.instanceMethod yX6_current, Cond.selects RX6 yX6_current yX6_current, Cond.code yX6_current cX6_current 3 none, Cond.methodLink RX6 82 yX6_needAmount]
def wsL_law0_r12 : List Cond := [Cond.static yX6_needAmount, Cond.code yX6_needAmount cX6_needAmount 5 none, Cond.classLink RX6 206 "java/lang/IllegalArgumentException", Cond.initialized "java/lang/IllegalArgumentException", Cond.constantDouble RX6 211 (4620693217682128896), Cond.methodLink RL 122 yX7_current, Cond.instanceMethod yX7_current, Cond.selects RX7 yX7_current yX7_current, Cond.code yX7_current cX7_current 3 none, Cond.constantDouble RX7 95 (13879882945323335680), Cond.constantDouble RX7 97 (4656510908468559872), Cond.constantDouble RX7 99 (4620693217682128896), Cond.methodLink RL 123 yL_warm, Cond.static yL_warm, Cond.codeWith yL_warm cL_warm 5 (some .int) [(0, 6, 9, 13), (0, 6, 13, 21), (0, 6, 17, 15)], Cond.methodLink RL 23 yX6_warm, Cond.instanceMethod yX6_warm, Cond.selects RX6 yX6_warm yX6_warm, Cond.code yX6_warm cX6_warm 4 none, Cond.fieldLink RX6 86 "CellKeeper$Chip" "degrees" "D", Cond.methodLink RL 126 yX7_warm, Cond.instanceMethod yX7_warm, Cond.selects RX7 yX7_warm yX7_warm, Cond.code yX7_warm cX7_warm 4 none]
def wsL_law0_r13 : List Cond := [Cond.constantDouble RX7 101 (13860109328209412096), Cond.constantDouble RX7 103 (4641240890982006784), Cond.methodLink RL 127 yL_bus, Cond.static yL_bus, Cond.codeWith yL_bus cL_bus 3 (some .int) [(0, 5, 8, 21), (0, 5, 11, 15)], Cond.methodLink RL 27 yX6_bus, Cond.instanceMethod yX6_bus, Cond.selects RX6 yX6_bus yX6_bus, Cond.code yX6_bus cX6_bus 2 none, Cond.constant RX6 89 (1000000), Cond.methodLink RX6 90 yX6_needWhole, Cond.static yX6_needWhole, Cond.code yX6_needWhole cX6_needWhole 3 none, Cond.methodLink RL 130 yX7_bus, Cond.instanceMethod yX7_bus, Cond.selects RX7 yX7_bus yX7_bus, Cond.code yX7_bus cX7_bus 2 none, Cond.constant RX7 105 (1000000), Cond.methodLink RL 131 yL_want, Cond.static yL_want, Cond.codeWith yL_want cL_want 3 (some .int) [(0, 5, 8, 15)], Cond.methodLink RL 31 yX6_want, Cond.instanceMethod yX6_want, Cond.selects RX6 yX6_want yX6_want]
def wsL_law0_r14 : List Cond := [Cond.code yX6_want cX6_want 2 none, Cond.methodLink RL 134 yX7_want, Cond.instanceMethod yX7_want, Cond.selects RX7 yX7_want yX7_want, Cond.code yX7_want cX7_want 2 none, Cond.methodLink RL 135 yL_set, Cond.static yL_set, Cond.codeWith yL_set cL_set 4 (some .int) [(0, 5, 8, 21), (0, 5, 11, 15)], Cond.methodLink RL 35 yX6_set, Cond.instanceMethod yX6_set, Cond.selects RX6 yX6_set yX6_set, Cond.code yX6_set cX6_set 3 none, Cond.methodLink RL 137 yX7_set, Cond.instanceMethod yX7_set, Cond.selects RX7 yX7_set yX7_set, Cond.code yX7_set cX7_set 3 none, Cond.constantDouble RX7 115 (4665729213955833856), Cond.methodLink RL 138 yL_tick, Cond.static yL_tick, Cond.codeWith yL_tick cL_tick 4 (some .int) [(0, 9, 12, 21), (0, 9, 15, 15)], Cond.methodLink RL 38 yX6_tick, Cond.instanceMethod yX6_tick, Cond.selects RX6 yX6_tick yX6_tick, Cond.code yX6_tick cX6_tick 3 (some .int)]
def wsL_law0_r15 : List Cond := [Cond.fieldLink RX6 110 "CellKeeper$Contactors" "state" "I", Cond.methodLink RX6 107 yX6_passOneTick, Cond.instanceMethod yX6_passOneTick, Cond.selects RX6 yX6_passOneTick yX6_passOneTick, Cond.code yX6_passOneTick cX6_passOneTick 5 none, Cond.fieldLink RX6 231 "CellKeeper$Chip" "age" "I", Cond.fieldLink RX6 254 "CellKeeper$Alarms" "fresh" "Z", Cond.methodLink RX6 234 yX5_look, Cond.instanceMethod yX5_look, Cond.selects RX5 yX5_look yX5_look, Cond.code yX5_look cX5_look 6 none, Cond.fieldLink RX5 9 "CellKeeper$Survey" "staleChip" "Z", Cond.fieldLink RX5 15 "CellKeeper$Survey" "invalidCell" "Z", Cond.fieldLink RX5 18 "CellKeeper$Survey" "sum" "I", Cond.constant RX5 24 (2147483647), Cond.fieldLink RX5 25 "CellKeeper$Survey" "least" "I", Cond.fieldLink RX5 28 "CellKeeper$Survey" "greatest" "I", Cond.constantDouble RX5 31 (13860109328209412096), Cond.fieldLink RX5 33 "CellKeeper$Survey" "hottest" "D", Cond.constantDouble RX5 37 (4641240890982006784), Cond.fieldLink RX5 39 "CellKeeper$Survey" "coldest" "D", Cond.fieldLink RX5 42 "CellKeeper$Chip" "degrees" "D", Cond.methodLink RX5 47 yX3_isStale, Cond.instanceMethod yX3_isStale]
def wsL_law0_r16 : List Cond := [Cond.selects RX3 yX3_isStale yX3_isStale, Cond.code yX3_isStale cX3_isStale 1 (some .boolean), Cond.methodLink RX5 51 yX5_lookAtCells, Cond.instanceMethod yX5_lookAtCells, Cond.selects RX5 yX5_lookAtCells yX5_lookAtCells, Cond.code yX5_lookAtCells cX5_lookAtCells 4 none, Cond.fieldLink RX5 59 "CellKeeper$Chip" "numbers" "[I", Cond.methodLink RX5 63 Lib.Math.min.name, Cond.methodLink RX5 69 Lib.Math.max.name, Cond.methodLink RX5 55 yX3_isValid, Cond.instanceMethod yX3_isValid, Cond.selects RX3 yX3_isValid yX3_isValid, Cond.code yX3_isValid cX3_isValid 2 (some .boolean), Cond.methodLink RX3 53 yX3_isStale, Cond.methodLink RX3 57 yX3_isStuck, Cond.instanceMethod yX3_isStuck, Cond.selects RX3 yX3_isStuck yX3_isStuck, Cond.code yX3_isStuck cX3_isStuck 2 (some .boolean), Cond.methodLink RX3 61 yX3_currentsSwing, Cond.instanceMethod yX3_currentsSwing, Cond.selects RX3 yX3_currentsSwing yX3_currentsSwing, Cond.code yX3_currentsSwing cX3_currentsSwing 10 (some .boolean), Cond.constantDouble RX3 64 (4620693217682128896), Cond.methodLink RX6 238 yX6_moveCharge]
def wsL_law0_r17 : List Cond := [Cond.instanceMethod yX6_moveCharge, Cond.selects RX6 yX6_moveCharge yX6_moveCharge, Cond.code yX6_moveCharge cX6_moveCharge 2 none, Cond.constantDouble RX6 264 (4666723172467343360), Cond.constantDouble RX6 266 (4602678819172646912), Cond.fieldLink RX6 272 "CellKeeper$Survey" "sum" "I", Cond.constantDouble RX6 278 (4652218415073722368), Cond.methodLink RX6 260 yX6_currentSize, Cond.instanceMethod yX6_currentSize, Cond.selects RX6 yX6_currentSize yX6_currentSize, Cond.code yX6_currentSize cX6_currentSize 1 (some .double), Cond.methodLink RX6 268 yX5_allValid, Cond.instanceMethod yX5_allValid, Cond.selects RX5 yX5_allValid yX5_allValid, Cond.code yX5_allValid cX5_allValid 1 (some .boolean), Cond.methodLink RX6 275 yX6_partsAtRest, Cond.static yX6_partsAtRest, Cond.code yX6_partsAtRest cX6_partsAtRest 4 (some .int), Cond.fieldLink RX6 280 "CellKeeper" "REST_MILLIVOLTS" "[I", Cond.fieldLink RX6 283 "CellKeeper" "REST_PARTS" "[I", Cond.methodLink RX6 241 yX6_tellAllowed, Cond.instanceMethod yX6_tellAllowed, Cond.selects RX6 yX6_tellAllowed yX6_tellAllowed, Cond.code yX6_tellAllowed cX6_tellAllowed 2 none]
def wsL_law0_r18 : List Cond := [Cond.fieldLink RX6 286 "CellKeeper$Survey" "hottest" "D", Cond.fieldLink RX6 292 "CellKeeper$Survey" "coldest" "D", Cond.constantDouble RX6 298 (4643985272004935680), Cond.constantDouble RX6 303 (4634204016564240384), Cond.constantDouble RX6 305 (4639481672377565184), Cond.methodLink RX6 289 yX6_heatShare, Cond.static yX6_heatShare, Cond.code yX6_heatShare cX6_heatShare 2 (some .int), Cond.constantDouble RX6 307 (4631530004285489152), Cond.constantDouble RX6 309 (4633781804099174400), Cond.constantDouble RX6 311 (4616189618054758400), Cond.methodLink RX6 295 yX6_coldShare, Cond.static yX6_coldShare, Cond.code yX6_coldShare cX6_coldShare 2 (some .int), Cond.constantDouble RX6 313 (4621819117588971520), Cond.constantDouble RX6 315 (13850257704024539136), Cond.constantDouble RX6 317 (4611686018427387904), Cond.constantDouble RX6 319 (4626885667169763328), Cond.methodLink RX6 300 yX6_chargeShare, Cond.instanceMethod yX6_chargeShare, Cond.selects RX6 yX6_chargeShare yX6_chargeShare, Cond.code yX6_chargeShare cX6_chargeShare 3 (some .int), Cond.constantDouble RX6 321 (4647714815446351872), Cond.methodLink RX6 157 yX6_wholeCapacities]
def wsL_law0_r19 : List Cond := [Cond.instanceMethod yX6_wholeCapacities, Cond.selects RX6 yX6_wholeCapacities yX6_wholeCapacities, Cond.code yX6_wholeCapacities cX6_wholeCapacities 4 (some .int), Cond.methodLink RX6 244 yX6_watchCauses, Cond.instanceMethod yX6_watchCauses, Cond.selects RX6 yX6_watchCauses yX6_watchCauses, Cond.code yX6_watchCauses cX6_watchCauses 1 none, Cond.fieldLink RX6 323 "CellKeeper$Survey" "staleChip" "Z", Cond.fieldLink RX6 330 "CellKeeper$Survey" "invalidCell" "Z", Cond.fieldLink RX6 333 "CellKeeper$Survey" "greatest" "I", Cond.fieldLink RX6 336 "CellKeeper$Survey" "least" "I", Cond.constantDouble RX6 339 (4633641066610819072), Cond.constantDouble RX6 341 (13852509503838224384), Cond.methodLink RX6 326 yX0_watch, Cond.instanceMethod yX0_watch, Cond.selects RX0 yX0_watch yX0_watch, Cond.code yX0_watch cX0_watch 3 none, Cond.methodLink RX0 24 Lib.Math.min.name, Cond.methodLink RX0 30 yX0_latch, Cond.instanceMethod yX0_latch, Cond.selects RX0 yX0_latch yX0_latch, Cond.code yX0_latch cX0_latch 2 none, Cond.methodLink RX0 34 yX0_isLatched, Cond.instanceMethod yX0_isLatched]
def wsL_law0_r20 : List Cond := [Cond.selects RX0 yX0_isLatched yX0_isLatched, Cond.code yX0_isLatched cX0_isLatched 2 (some .boolean), Cond.methodLink RX6 247 yX4_step, Cond.instanceMethod yX4_step, Cond.selects RX4 yX4_step yX4_step, Cond.code yX4_step cX4_step 7 none, Cond.methodLink RX4 16 yX0_anySerious, Cond.instanceMethod yX0_anySerious, Cond.selects RX0 yX0_anySerious yX0_anySerious, Cond.code yX0_anySerious cX0_anySerious 1 (some .boolean), Cond.methodLink RX4 22 yX4_opened, Cond.instanceMethod yX4_opened, Cond.selects RX4 yX4_opened yX4_opened, Cond.code yX4_opened cX4_opened 4 (some .int), Cond.fieldLink RX4 34 "CellKeeper$Survey" "sum" "I", Cond.methodLink RX4 37 yX0_latch, Cond.methodLink RX4 26 yX4_precharged, Cond.instanceMethod yX4_precharged, Cond.selects RX4 yX4_precharged yX4_precharged, Cond.code yX4_precharged cX4_precharged 4 (some .int), Cond.methodLink RX4 29 yX5_allValid, Cond.methodLink RX6 251 yX6_letBleed, Cond.instanceMethod yX6_letBleed, Cond.selects RX6 yX6_letBleed yX6_letBleed]
def wsL_law0_r21 : List Cond := [Cond.code yX6_letBleed cX6_letBleed 7 none, Cond.fieldLink RX6 174 "CellKeeper$Chip" "bleeds" "I", Cond.methodLink RX6 343 yX0_anySerious, Cond.methodLink RX6 346 yX3_cellsToBleed, Cond.instanceMethod yX3_cellsToBleed, Cond.selects RX3 yX3_cellsToBleed yX3_cellsToBleed, Cond.code yX3_cellsToBleed cX3_cellsToBleed 7 (some .int), Cond.methodLink RX3 66 yX3_isValid, Cond.methodLink RX6 257 yX6_writeBlock, Cond.instanceMethod yX6_writeBlock, Cond.selects RX6 yX6_writeBlock yX6_writeBlock, Cond.code yX6_writeBlock cX6_writeBlock 4 none, Cond.constantDouble RX6 229 (4665729213955833856), Cond.fieldLink RX6 152 "CellKeeper$Alarms" "latched" "I", Cond.methodLink RX6 349 yX1_write, Cond.instanceMethod yX1_write, Cond.selects RX1 yX1_write yX1_write, Cond.code yX1_write cX1_write 8 (some .boolean), Cond.methodLink RX1 26 yX1_lay, Cond.instanceMethod yX1_lay, Cond.selects RX1 yX1_lay yX1_lay, Cond.code yX1_lay cX1_lay 6 none, Cond.methodLink RX1 30 yX2_ofRow, Cond.static yX2_ofRow]
def wsL_law0_r22 : List Cond := [Cond.code yX2_ofRow cX2_ofRow 6 (some .int), Cond.methodLink RX2 13 Lib.Math.min.name, Cond.methodLink RX2 18 Lib.Math.max.name, Cond.methodLink RX1 36 yX1_placeOf, Cond.instanceMethod yX1_placeOf, Cond.selects RX1 yX1_placeOf yX1_placeOf, Cond.code yX1_placeOf cX1_placeOf 2 (some .int), Cond.methodLink RX1 40 yJ9_floorMod_7cf53, Cond.methodLink RL 141 yX7_tick, Cond.instanceMethod yX7_tick, Cond.selects RX7 yX7_tick yX7_tick, Cond.code yX7_tick cX7_tick 4 (some .int), Cond.fieldLink RX7 221 "CellKeeperModel" "fresh" "Z", Cond.methodLink RX7 263 yX7_countCharge, Cond.instanceMethod yX7_countCharge, Cond.selects RX7 yX7_countCharge yX7_countCharge, Cond.code yX7_countCharge cX7_countCharge 3 none, Cond.constantLong RX7 142 (1024), Cond.constantLong RX7 151 (80000), Cond.constantLong RX7 153 (4), Cond.constantLong RX7 162 (8), Cond.methodLink RX7 147 yX7_sizeOf, Cond.static yX7_sizeOf, Cond.code yX7_sizeOf cX7_sizeOf 2 (some .long)]
def wsL_law0_r23 : List Cond := [Cond.methodLink RX7 158 yX7_areAllValid, Cond.instanceMethod yX7_areAllValid, Cond.selects RX7 yX7_areAllValid yX7_areAllValid, Cond.code yX7_areAllValid cX7_areAllValid 3 (some .boolean), Cond.methodLink RX7 130 yX7_isValid, Cond.instanceMethod yX7_isValid, Cond.selects RX7 yX7_isValid yX7_isValid, Cond.code yX7_isValid cX7_isValid 4 (some .boolean), Cond.methodLink RX7 122 yX7_isStale, Cond.instanceMethod yX7_isStale, Cond.selects RX7 yX7_isStale yX7_isStale, Cond.code yX7_isStale cX7_isStale 2 (some .boolean), Cond.methodLink RX7 117 yX7_numberOf, Cond.instanceMethod yX7_numberOf, Cond.selects RX7 yX7_numberOf yX7_numberOf, Cond.code yX7_numberOf cX7_numberOf 5 (some .int), Cond.methodLink RX7 126 yX7_isStuck, Cond.instanceMethod yX7_isStuck, Cond.selects RX7 yX7_isStuck yX7_isStuck, Cond.code yX7_isStuck cX7_isStuck 11 (some .boolean), Cond.constantLong RX7 120 (64), Cond.methodLink RX7 164 yX7_sum, Cond.instanceMethod yX7_sum, Cond.selects RX7 yX7_sum yX7_sum]
def wsL_law0_r24 : List Cond := [Cond.code yX7_sum cX7_sum 3 (some .int), Cond.methodLink RX7 168 yX7_told, Cond.static yX7_told, Cond.code yX7_told cX7_told 2 (some .int), Cond.methodLink RX7 133 yX7_knot, Cond.static yX7_knot, Cond.code yX7_knot cX7_knot 1 (some .int), Cond.methodLink RX7 137 yX7_share, Cond.static yX7_share, Cond.code yX7_share cX7_share 1 (some .int), Cond.methodLink RX7 266 yX7_allow, Cond.instanceMethod yX7_allow, Cond.selects RX7 yX7_allow yX7_allow, Cond.code yX7_allow cX7_allow 9 none, Cond.constantLong RX7 184 (360), Cond.constantLong RX7 186 (488), Cond.constantLong RX7 188 (2), Cond.constantLong RX7 190 (80), Cond.constantLong RX7 192 (-176), Cond.constantLong RX7 194 (176), Cond.constantLong RX7 196 (300), Cond.constantLong RX7 208 (150), Cond.methodLink RX7 177 yX7_hottest, Cond.instanceMethod yX7_hottest]
def wsL_law0_r25 : List Cond := [Cond.selects RX7 yX7_hottest yX7_hottest, Cond.code yX7_hottest cX7_hottest 4 (some .long), Cond.methodLink RX7 181 yX7_coldest, Cond.instanceMethod yX7_coldest, Cond.selects RX7 yX7_coldest yX7_coldest, Cond.code yX7_coldest cX7_coldest 4 (some .long), Cond.methodLink RX7 173 yX7_floor, Cond.static yX7_floor, Cond.code yX7_floor cX7_floor 6 (some .long), Cond.methodLink RX7 198 yX7_full, Cond.instanceMethod yX7_full, Cond.selects RX7 yX7_full yX7_full, Cond.code yX7_full cX7_full 3 (some .long), Cond.constantLong RX7 171 (512), Cond.methodLink RX7 201 yX7_least, Cond.static yX7_least, Cond.code yX7_least cX7_least 8 (some .long), Cond.methodLink RX7 269 yX7_causes, Cond.instanceMethod yX7_causes, Cond.selects RX7 yX7_causes yX7_causes, Cond.code yX7_causes cX7_causes 2 none, Cond.methodLink RX7 227 yX7_isSo, Cond.instanceMethod yX7_isSo, Cond.selects RX7 yX7_isSo yX7_isSo]
def wsL_law0_r26 : List Cond := [Cond.code yX7_isSo cX7_isSo 7 (some .boolean), Cond.constantLong RX7 213 (480), Cond.constantLong RX7 215 (-240), Cond.constantLong RX7 217 (640), Cond.constantLong RX7 219 (-8), Cond.methodLink RX7 230 yX7_latch, Cond.instanceMethod yX7_latch, Cond.selects RX7 yX7_latch yX7_latch, Cond.code yX7_latch cX7_latch 2 none, Cond.methodLink RX7 272 yX7_contactors, Cond.instanceMethod yX7_contactors, Cond.selects RX7 yX7_contactors yX7_contactors, Cond.code yX7_contactors cX7_contactors 2 none, Cond.constantLong RX7 246 (20), Cond.constantLong RX7 248 (19), Cond.methodLink RX7 240 yX7_isSerious, Cond.instanceMethod yX7_isSerious, Cond.selects RX7 yX7_isSerious yX7_isSerious, Cond.code yX7_isSerious cX7_isSerious 1 (some .boolean), Cond.methodLink RX7 243 yX7_become, Cond.instanceMethod yX7_become, Cond.selects RX7 yX7_become yX7_become, Cond.code yX7_become cX7_become 2 none, Cond.methodLink RX7 275 yX7_bleed]
def wsL_law0_r27 : List Cond := [Cond.instanceMethod yX7_bleed, Cond.selects RX7 yX7_bleed yX7_bleed, Cond.code yX7_bleed cX7_bleed 6 none, Cond.constantLong RX7 250 (16), Cond.constant RX7 252 (100000), Cond.methodLink RX7 278 yX7_write, Cond.instanceMethod yX7_write, Cond.selects RX7 yX7_write yX7_write, Cond.code yX7_write cX7_write 4 none, Cond.methodLink RX7 259 yX7_putBlock, Cond.instanceMethod yX7_putBlock, Cond.selects RX7 yX7_putBlock yX7_putBlock, Cond.code yX7_putBlock cX7_putBlock 6 none, Cond.methodLink RL 142 yL_reset, Cond.static yL_reset, Cond.codeWith yL_reset cL_reset 4 (some .int) [(0, 16, 19, 13), (0, 16, 22, 15)], Cond.methodLink RL 42 yX6_reset, Cond.instanceMethod yX6_reset, Cond.selects RX6 yX6_reset yX6_reset, Cond.code yX6_reset cX6_reset 2 (some .boolean), Cond.methodLink RX6 117 yX0_dismiss, Cond.instanceMethod yX0_dismiss, Cond.selects RX0 yX0_dismiss yX0_dismiss, Cond.code yX0_dismiss cX0_dismiss 4 (some .boolean)]
def wsL_law0_r28 : List Cond := [Cond.methodLink RL 144 yX7_reset, Cond.instanceMethod yX7_reset, Cond.selects RX7 yX7_reset yX7_reset, Cond.code yX7_reset cX7_reset 3 (some .boolean), Cond.methodLink RL 145 yL_cut, Cond.static yL_cut, Cond.codeWith yL_cut cL_cut 3 (some .int) [(0, 5, 8, 21), (0, 5, 11, 15)], Cond.methodLink RL 46 yX6_cut, Cond.instanceMethod yX6_cut, Cond.selects RX6 yX6_cut yX6_cut, Cond.code yX6_cut cX6_cut 2 none, Cond.fieldLink RX6 121 "CellKeeper$Blocks" "limit" "I", Cond.methodLink RL 147 yX7_cut, Cond.instanceMethod yX7_cut, Cond.selects RX7 yX7_cut yX7_cut, Cond.code yX7_cut cX7_cut 2 none, Cond.methodLink RL 148 yX6_power, Cond.instanceMethod yX6_power, Cond.selects RX6 yX6_power yX6_power, Cond.code yX6_power cX6_power 2 (some .int), Cond.fieldLink RX6 132 "CellKeeper$Blocks" "next" "I", Cond.methodLink RX6 124 yX1_newestPlace, Cond.instanceMethod yX1_newestPlace, Cond.selects RX1 yX1_newestPlace yX1_newestPlace]
def wsL_law0_r29 : List Cond := [Cond.code yX1_newestPlace cX1_newestPlace 3 (some .int), Cond.methodLink RX1 48 yX1_isGood, Cond.instanceMethod yX1_isGood, Cond.selects RX1 yX1_isGood yX1_isGood, Cond.code yX1_isGood cX1_isGood 4 (some .boolean), Cond.constant RX1 55 (1000000000), Cond.methodLink RX1 52 yX1_numberAt, Cond.instanceMethod yX1_numberAt, Cond.selects RX1 yX1_numberAt yX1_numberAt, Cond.code yX1_numberAt cX1_numberAt 2 (some .int), Cond.methodLink RX1 56 yX1_fetch, Cond.instanceMethod yX1_fetch, Cond.selects RX1 yX1_fetch yX1_fetch, Cond.code yX1_fetch cX1_fetch 6 (some .long), Cond.constantLong RX1 46 (255), Cond.methodLink RX6 128 yX1_numberAt, Cond.methodLink RX6 135 yX1_timeAt, Cond.instanceMethod yX1_timeAt, Cond.selects RX1 yX1_timeAt yX1_timeAt, Cond.code yX1_timeAt cX1_timeAt 2 (some .int), Cond.methodLink RX6 141 yX1_partsAt, Cond.instanceMethod yX1_partsAt, Cond.selects RX1 yX1_partsAt yX1_partsAt, Cond.code yX1_partsAt cX1_partsAt 2 (some .long)]
def wsL_law0_r30 : List Cond := [Cond.methodLink RX6 145 yX6_chargeOfParts, Cond.instanceMethod yX6_chargeOfParts, Cond.selects RX6 yX6_chargeOfParts yX6_chargeOfParts, Cond.code yX6_chargeOfParts cX6_chargeOfParts 5 (some .double), Cond.constantLong RX6 222 (8192), Cond.methodLink RX6 224 Lib.MathLoose.min_long.x, Cond.static Lib.MathLoose.min_long.x, Cond.code Lib.MathLoose.min_long.x Lib.MathLoose.min_long.code 4 (some .long), Cond.methodLink RX6 227 Lib.MathLoose.max_long.x, Cond.static Lib.MathLoose.max_long.x, Cond.code Lib.MathLoose.max_long.x Lib.MathLoose.max_long.code 4 (some .long), Cond.methodLink RX6 149 yX1_faultsAt, Cond.instanceMethod yX1_faultsAt, Cond.selects RX1 yX1_faultsAt yX1_faultsAt, Cond.code yX1_faultsAt cX1_faultsAt 2 (some .int), Cond.methodLink RL 151 yX7_power, Cond.instanceMethod yX7_power, Cond.selects RX7 yX7_power yX7_power, Cond.code yX7_power cX7_power 1 (some .int), Cond.methodLink RL 152 yX6_off, Cond.instanceMethod yX6_off, Cond.selects RX6 yX6_off yX6_off, Cond.code yX6_off cX6_off 1 (some .boolean), Cond.methodLink RL 156 yX7_off]
def wsL_law0_r31 : List Cond := [Cond.instanceMethod yX7_off, Cond.selects RX7 yX7_off yX7_off, Cond.code yX7_off cX7_off 1 (some .boolean), Cond.methodLink RL 157 yL_time, Cond.static yL_time, Cond.codeWith yL_time cL_time 3 (some .int) [(0, 8, 11, 15)], Cond.methodLink RL 49 yX6_time, Cond.instanceMethod yX6_time, Cond.selects RX6 yX6_time yX6_time, Cond.code yX6_time cX6_time 1 (some .int), Cond.methodLink RL 160 yX7_time, Cond.instanceMethod yX7_time, Cond.selects RX7 yX7_time yX7_time, Cond.code yX7_time cX7_time 1 (some .int), Cond.methodLink RX7 292 yX7_noPower, Cond.instanceMethod yX7_noPower, Cond.selects RX7 yX7_noPower yX7_noPower, Cond.code yX7_noPower cX7_noPower 1 (some .boolean), Cond.methodLink RL 161 yL_charge, Cond.static yL_charge, Cond.codeWith yL_charge cL_charge 3 (some .int) [(0, 7, 10, 15)], Cond.methodLink RL 53 yX6_charge, Cond.instanceMethod yX6_charge, Cond.selects RX6 yX6_charge yX6_charge]
def wsL_law0_r32 : List Cond := [Cond.code yX6_charge cX6_charge 1 (some .double), Cond.methodLink RL 164 yX7_charge, Cond.instanceMethod yX7_charge, Cond.selects RX7 yX7_charge yX7_charge, Cond.code yX7_charge cX7_charge 1 (some .double), Cond.methodLink RL 165 yL_percent, Cond.static yL_percent, Cond.codeWith yL_percent cL_percent 3 (some .int) [(0, 8, 11, 15)], Cond.methodLink RL 57 yX6_percent, Cond.instanceMethod yX6_percent, Cond.selects RX6 yX6_percent yX6_percent, Cond.code yX6_percent cX6_percent 1 (some .int), Cond.constantDouble RX6 155 (4636737291354636288), Cond.methodLink RL 167 yX7_percent, Cond.instanceMethod yX7_percent, Cond.selects RX7 yX7_percent yX7_percent, Cond.code yX7_percent cX7_percent 1 (some .int), Cond.methodLink RL 168 yL_through, Cond.static yL_through, Cond.codeWith yL_through cL_through 3 (some .int) [(0, 7, 10, 15)], Cond.methodLink RL 60 yX6_through, Cond.instanceMethod yX6_through, Cond.selects RX6 yX6_through yX6_through, Cond.code yX6_through cX6_through 1 (some .double)]
def wsL_law0_r33 : List Cond := [Cond.methodLink RL 170 yX7_through, Cond.instanceMethod yX7_through, Cond.selects RX7 yX7_through yX7_through, Cond.code yX7_through cX7_through 1 (some .double), Cond.methodLink RL 171 yL_allowed, Cond.static yL_allowed, Cond.codeWith yL_allowed cL_allowed 4 (some .int) [(0, 8, 11, 15)], Cond.methodLink RL 63 yX6_allowed, Cond.instanceMethod yX6_allowed, Cond.selects RX6 yX6_allowed yX6_allowed, Cond.code yX6_allowed cX6_allowed 2 (some .double), Cond.methodLink RL 174 yX7_allowed, Cond.instanceMethod yX7_allowed, Cond.selects RX7 yX7_allowed yX7_allowed, Cond.code yX7_allowed cX7_allowed 2 (some .double), Cond.constantDouble RX7 295 (4634204016564240384), Cond.methodLink RL 175 yL_valid, Cond.static yL_valid, Cond.codeWith yL_valid cL_valid 5 (some .int) [(0, 17, 20, 13), (0, 17, 24, 15)], Cond.methodLink RL 67 yX6_valid, Cond.instanceMethod yX6_valid, Cond.selects RX6 yX6_valid yX6_valid, Cond.code yX6_valid cX6_valid 3 (some .boolean), Cond.methodLink RX6 170 yX3_isValid]
def wsL_law0_r34 : List Cond := [Cond.methodLink RL 178 yX7_valid, Cond.instanceMethod yX7_valid, Cond.selects RX7 yX7_valid yX7_valid, Cond.code yX7_valid cX7_valid 3 (some .boolean), Cond.methodLink RL 179 yL_bleeding, Cond.static yL_bleeding, Cond.codeWith yL_bleeding cL_bleeding 4 (some .int) [(0, 9, 12, 13), (0, 9, 15, 15)], Cond.methodLink RL 71 yX6_bleeding, Cond.instanceMethod yX6_bleeding, Cond.selects RX6 yX6_bleeding yX6_bleeding, Cond.code yX6_bleeding cX6_bleeding 2 (some .int), Cond.methodLink RL 181 yX7_bleeding, Cond.instanceMethod yX7_bleeding, Cond.selects RX7 yX7_bleeding yX7_bleeding, Cond.code yX7_bleeding cX7_bleeding 2 (some .int), Cond.methodLink RX7 297 yX7_noChip, Cond.instanceMethod yX7_noChip, Cond.selects RX7 yX7_noChip yX7_noChip, Cond.code yX7_noChip cX7_noChip 2 (some .boolean), Cond.methodLink RL 182 yL_faults, Cond.static yL_faults, Cond.codeWith yL_faults cL_faults 3 (some .int) [(0, 8, 11, 15)], Cond.methodLink RL 74 yX6_faults, Cond.instanceMethod yX6_faults]
def wsL_law0_r35 : List Cond := [Cond.selects RX6 yX6_faults yX6_faults, Cond.code yX6_faults cX6_faults 1 (some .int), Cond.methodLink RL 184 yX7_faults, Cond.instanceMethod yX7_faults, Cond.selects RX7 yX7_faults yX7_faults, Cond.code yX7_faults cX7_faults 1 (some .int), Cond.methodLink RL 185 yL_count, Cond.static yL_count, Cond.codeWith yL_count cL_count 4 (some .int) [(0, 9, 12, 13), (0, 9, 15, 15)], Cond.methodLink RL 77 yX6_count, Cond.instanceMethod yX6_count, Cond.selects RX6 yX6_count yX6_count, Cond.code yX6_count cX6_count 2 (some .int), Cond.fieldLink RX6 177 "CellKeeper$Alarms" "counts" "[I", Cond.methodLink RL 187 yX7_count, Cond.instanceMethod yX7_count, Cond.selects RX7 yX7_count yX7_count, Cond.code yX7_count cX7_count 2 (some .int), Cond.methodLink RL 188 yL_journal, Cond.static yL_journal, Cond.codeWith yL_journal cL_journal 4 (some .int) [(0, 9, 12, 13)], Cond.methodLink RL 80 yX6_journal, Cond.instanceMethod yX6_journal, Cond.selects RX6 yX6_journal yX6_journal]
def wsL_law0_r36 : List Cond := [Cond.code yX6_journal cX6_journal 2 (some .int), Cond.fieldLink RX6 181 "CellKeeper$Blocks" "bytes" "[B", Cond.methodLink RL 190 yX7_journal, Cond.instanceMethod yX7_journal, Cond.selects RX7 yX7_journal yX7_journal, Cond.code yX7_journal cX7_journal 2 (some .int), Cond.methodLink RL 191 yL_spoil, Cond.static yL_spoil, Cond.codeWith yL_spoil cL_spoil 4 (some .int) [(0, 6, 9, 13), (0, 6, 12, 21)], Cond.methodLink RL 83 yX6_spoil, Cond.instanceMethod yX6_spoil, Cond.selects RX6 yX6_spoil yX6_spoil, Cond.code yX6_spoil cX6_spoil 3 none, Cond.methodLink RL 194 yX7_spoil, Cond.instanceMethod yX7_spoil, Cond.selects RX7 yX7_spoil yX7_spoil, Cond.code yX7_spoil cX7_spoil 3 none]
def wsL_law0 : List Cond := (wsL_law0_r1 ++ (wsL_law0_r2 ++ (wsL_law0_r3 ++ (wsL_law0_r4 ++ (wsL_law0_r5 ++ (wsL_law0_r6 ++ (wsL_law0_r7 ++ (wsL_law0_r8 ++ (wsL_law0_r9 ++ (wsL_law0_r10 ++ (wsL_law0_r11 ++ (wsL_law0_r12 ++ (wsL_law0_r13 ++ (wsL_law0_r14 ++ (wsL_law0_r15 ++ (wsL_law0_r16 ++ (wsL_law0_r17 ++ (wsL_law0_r18 ++ (wsL_law0_r19 ++ (wsL_law0_r20 ++ (wsL_law0_r21 ++ (wsL_law0_r22 ++ (wsL_law0_r23 ++ (wsL_law0_r24 ++ (wsL_law0_r25 ++ (wsL_law0_r26 ++ (wsL_law0_r27 ++ (wsL_law0_r28 ++ (wsL_law0_r29 ++ (wsL_law0_r30 ++ (wsL_law0_r31 ++ (wsL_law0_r32 ++ (wsL_law0_r33 ++ (wsL_law0_r34 ++ (wsL_law0_r35 ++ wsL_law0_r36))))))))))))))))))))))))))))))))))) ++ wsX60 ++ wsX70 ++ wsX30 ++ wsX50 ++ wsX00 ++ wsX40 ++ wsX10 ++ ([] : List Cond)
def wsL_law : List Cond := wsL_law0 ++ (vx_atS RX6 205 "java/lang/IndexOutOfBoundsException" ["java/lang/RuntimeException", "java/lang/Exception"]).filter goodWord ++ (vx_atS RX6 198 "java/lang/IllegalStateException" ["java/lang/RuntimeException", "java/lang/Exception"]).filter goodWord ++ (vx_atS RX6 210 "java/lang/IllegalArgumentException" ["java/lang/RuntimeException", "java/lang/Exception"]).filter goodWord
theorem inlX0 : ∀ w ∈ wsX00, w ∈ wsL_law := fun _ h => List.mem_append_left _ (List.mem_append_left _ (List.mem_append_left _ (List.mem_append_left _ (List.mem_append_left _ (List.mem_append_left _ (List.mem_append_right _ h))))))
theorem inlX1 : ∀ w ∈ wsX10, w ∈ wsL_law := fun _ h => List.mem_append_left _ (List.mem_append_left _ (List.mem_append_left _ (List.mem_append_left _ (List.mem_append_right _ h))))
theorem inlX3 : ∀ w ∈ wsX30, w ∈ wsL_law := fun _ h => List.mem_append_left _ (List.mem_append_left _ (List.mem_append_left _ (List.mem_append_left _ (List.mem_append_left _ (List.mem_append_left _ (List.mem_append_left _ (List.mem_append_left _ (List.mem_append_right _ h))))))))
theorem inlX4 : ∀ w ∈ wsX40, w ∈ wsL_law := fun _ h => List.mem_append_left _ (List.mem_append_left _ (List.mem_append_left _ (List.mem_append_left _ (List.mem_append_left _ (List.mem_append_right _ h)))))
theorem inlX5 : ∀ w ∈ wsX50, w ∈ wsL_law := fun _ h => List.mem_append_left _ (List.mem_append_left _ (List.mem_append_left _ (List.mem_append_left _ (List.mem_append_left _ (List.mem_append_left _ (List.mem_append_left _ (List.mem_append_right _ h)))))))
theorem inlX6 : ∀ w ∈ wsX60, w ∈ wsL_law := fun _ h => List.mem_append_left _ (List.mem_append_left _ (List.mem_append_left _ (List.mem_append_left _ (List.mem_append_left _ (List.mem_append_left _ (List.mem_append_left _ (List.mem_append_left _ (List.mem_append_left _ (List.mem_append_left _ (List.mem_append_right _ h))))))))))
theorem inlX7 : ∀ w ∈ wsX70, w ∈ wsL_law := fun _ h => List.mem_append_left _ (List.mem_append_left _ (List.mem_append_left _ (List.mem_append_left _ (List.mem_append_left _ (List.mem_append_left _ (List.mem_append_left _ (List.mem_append_left _ (List.mem_append_left _ (List.mem_append_right _ h)))))))))
abbrev vwCl : List vw_C := [(RX0, TX0, 4), (RX1, TX1, 5), (RX3, TX3, 8), (RX4, TX4, 2), (RX5, TX5, 7), (RX6, TX6, 17), (RX7, TX7, 32)]
end
section
theorem dX0_init_0 : decode cX0_init 0 = .ok (.aload_n 0, 1) := by decide +kernel
theorem dX0_init_1 : decode cX0_init 1 = .ok (.invokespecial 1, 3) := by decide +kernel
theorem dX0_init_4 : decode cX0_init 4 = .ok (.aload_n 0, 1) := by decide +kernel
theorem dX0_init_5 : decode cX0_init 5 = .ok (.bipush 7, 2) := by decide +kernel
theorem dX0_init_7 : decode cX0_init 7 = .ok (.newarray .int, 2) := by decide +kernel
theorem dX0_init_9 : decode cX0_init 9 = .ok (.putfield 9, 3) := by decide +kernel
theorem dX0_init_12 : decode cX0_init 12 = .ok (.aload_n 0, 1) := by decide +kernel
theorem dX0_init_13 : decode cX0_init 13 = .ok (.iload_n 1, 1) := by decide +kernel
theorem dX0_init_14 : decode cX0_init 14 = .ok (.putfield 13, 3) := by decide +kernel
theorem dX0_init_17 : decode cX0_init 17 = .ok (.return_, 1) := by decide +kernel
theorem dX0_beginAnew_0 : decode cX0_beginAnew 0 = .ok (.iconst 0, 1) := by decide +kernel
theorem dX0_beginAnew_1 : decode cX0_beginAnew 1 = .ok (.istore_n 1, 1) := by decide +kernel
theorem dX0_beginAnew_2 : decode cX0_beginAnew 2 = .ok (.iload_n 1, 1) := by decide +kernel
theorem dX0_beginAnew_3 : decode cX0_beginAnew 3 = .ok (.bipush 7, 2) := by decide +kernel
theorem dX0_beginAnew_5 : decode cX0_beginAnew 5 = .ok (.if_icmp .ge 16, 3) := by decide +kernel
theorem dX0_beginAnew_8 : decode cX0_beginAnew 8 = .ok (.aload_n 0, 1) := by decide +kernel
theorem dX0_beginAnew_9 : decode cX0_beginAnew 9 = .ok (.getfield 9, 3) := by decide +kernel
theorem dX0_beginAnew_12 : decode cX0_beginAnew 12 = .ok (.iload_n 1, 1) := by decide +kernel
theorem dX0_beginAnew_13 : decode cX0_beginAnew 13 = .ok (.iconst 0, 1) := by decide +kernel
theorem dX0_beginAnew_14 : decode cX0_beginAnew 14 = .ok (.iastore, 1) := by decide +kernel
theorem dX0_beginAnew_15 : decode cX0_beginAnew 15 = .ok (.iinc 1 1, 3) := by decide +kernel
theorem dX0_beginAnew_18 : decode cX0_beginAnew 18 = .ok (.goto (-16), 3) := by decide +kernel
theorem dX0_beginAnew_21 : decode cX0_beginAnew 21 = .ok (.aload_n 0, 1) := by decide +kernel
theorem dX0_beginAnew_22 : decode cX0_beginAnew 22 = .ok (.iconst 0, 1) := by decide +kernel
theorem dX0_beginAnew_23 : decode cX0_beginAnew 23 = .ok (.putfield 17, 3) := by decide +kernel
theorem dX0_beginAnew_26 : decode cX0_beginAnew 26 = .ok (.aload_n 0, 1) := by decide +kernel
theorem dX0_beginAnew_27 : decode cX0_beginAnew 27 = .ok (.iconst 0, 1) := by decide +kernel
theorem dX0_beginAnew_28 : decode cX0_beginAnew 28 = .ok (.putfield 20, 3) := by decide +kernel
theorem dX0_beginAnew_31 : decode cX0_beginAnew 31 = .ok (.return_, 1) := by decide +kernel
set_option maxRecDepth 20000 in
theorem ggX0_watch_X0_latch : GoodIn wsX0_watch wsX0_latch := goodIn_r _ [11, 12, 13, 14, 15, 16, 10, 17, 18, 19, 20, 21] (by decide +kernel) (by decide +kernel)
set_option maxRecDepth 20000 in
theorem gX0_watch_X0_latch : GoodIn wsX0_watch (wsV RX0 30 RX0 yX0_latch wsX0_latch) := goodIn_app (goodIn_of _ (by decide +kernel)) ggX0_watch_X0_latch
theorem dX0_watch_0 : decode cX0_watch 0 = .ok (.aload_n 0, 1) := by decide +kernel
theorem dX0_watch_1 : decode cX0_watch 1 = .ok (.getfield 9, 3) := by decide +kernel
theorem dX0_watch_4 : decode cX0_watch 4 = .ok (.iload_n 1, 1) := by decide +kernel
theorem dX0_watch_5 : decode cX0_watch 5 = .ok (.iload_n 2, 1) := by decide +kernel
theorem dX0_watch_6 : decode cX0_watch 6 = .ok (.ifCond .eq 20, 3) := by decide +kernel
theorem dX0_watch_9 : decode cX0_watch 9 = .ok (.sipush 255, 3) := by decide +kernel
theorem dX0_watch_12 : decode cX0_watch 12 = .ok (.aload_n 0, 1) := by decide +kernel
theorem dX0_watch_13 : decode cX0_watch 13 = .ok (.getfield 9, 3) := by decide +kernel
theorem dX0_watch_16 : decode cX0_watch 16 = .ok (.iload_n 1, 1) := by decide +kernel
theorem dX0_watch_17 : decode cX0_watch 17 = .ok (.iaload, 1) := by decide +kernel
theorem dX0_watch_18 : decode cX0_watch 18 = .ok (.iconst 1, 1) := by decide +kernel
theorem dX0_watch_19 : decode cX0_watch 19 = .ok (.iadd, 1) := by decide +kernel
theorem dX0_watch_20 : decode cX0_watch 20 = .ok (.invokestatic 24, 3) := by decide +kernel
theorem dX0_watch_23 : decode cX0_watch 23 = .ok (.goto 4, 3) := by decide +kernel
theorem dX0_watch_26 : decode cX0_watch 26 = .ok (.iconst 0, 1) := by decide +kernel
theorem dX0_watch_27 : decode cX0_watch 27 = .ok (.iastore, 1) := by decide +kernel
theorem dX0_watch_28 : decode cX0_watch 28 = .ok (.aload_n 0, 1) := by decide +kernel
theorem dX0_watch_29 : decode cX0_watch 29 = .ok (.getfield 9, 3) := by decide +kernel
theorem dX0_watch_32 : decode cX0_watch 32 = .ok (.iload_n 1, 1) := by decide +kernel
theorem dX0_watch_33 : decode cX0_watch 33 = .ok (.iaload, 1) := by decide +kernel
theorem dX0_watch_34 : decode cX0_watch 34 = .ok (.aload_n 0, 1) := by decide +kernel
theorem dX0_watch_35 : decode cX0_watch 35 = .ok (.getfield 13, 3) := by decide +kernel
theorem dX0_watch_38 : decode cX0_watch 38 = .ok (.if_icmp .lt 8, 3) := by decide +kernel
theorem dX0_watch_41 : decode cX0_watch 41 = .ok (.aload_n 0, 1) := by decide +kernel
theorem dX0_watch_42 : decode cX0_watch 42 = .ok (.iload_n 1, 1) := by decide +kernel
theorem dX0_watch_43 : decode cX0_watch 43 = .ok (.invokevirtual 30, 3) := by decide +kernel
theorem dX0_watch_46 : decode cX0_watch 46 = .ok (.return_, 1) := by decide +kernel
set_option maxRecDepth 20000 in
theorem ggX0_latch_X0_isLatched : GoodIn wsX0_latch wsX0_isLatched := goodIn_r _ [7, 1, 8, 9, 10, 11] (by decide +kernel) (by decide +kernel)
set_option maxRecDepth 20000 in
theorem gX0_latch_X0_isLatched : GoodIn wsX0_latch (wsV RX0 34 RX0 yX0_isLatched wsX0_isLatched) := goodIn_app (goodIn_of _ (by decide +kernel)) ggX0_latch_X0_isLatched
theorem dX0_latch_0 : decode cX0_latch 0 = .ok (.aload_n 0, 1) := by decide +kernel
theorem dX0_latch_1 : decode cX0_latch 1 = .ok (.iload_n 1, 1) := by decide +kernel
theorem dX0_latch_2 : decode cX0_latch 2 = .ok (.invokevirtual 34, 3) := by decide +kernel
theorem dX0_latch_5 : decode cX0_latch 5 = .ok (.ifCond .ne 20, 3) := by decide +kernel
theorem dX0_latch_8 : decode cX0_latch 8 = .ok (.aload_n 0, 1) := by decide +kernel
theorem dX0_latch_9 : decode cX0_latch 9 = .ok (.aload_n 0, 1) := by decide +kernel
theorem dX0_latch_10 : decode cX0_latch 10 = .ok (.getfield 17, 3) := by decide +kernel
theorem dX0_latch_13 : decode cX0_latch 13 = .ok (.iconst 1, 1) := by decide +kernel
theorem dX0_latch_14 : decode cX0_latch 14 = .ok (.iload_n 1, 1) := by decide +kernel
theorem dX0_latch_15 : decode cX0_latch 15 = .ok (.ishl, 1) := by decide +kernel
theorem dX0_latch_16 : decode cX0_latch 16 = .ok (.ior, 1) := by decide +kernel
theorem dX0_latch_17 : decode cX0_latch 17 = .ok (.putfield 17, 3) := by decide +kernel
theorem dX0_latch_20 : decode cX0_latch 20 = .ok (.aload_n 0, 1) := by decide +kernel
theorem dX0_latch_21 : decode cX0_latch 21 = .ok (.iconst 1, 1) := by decide +kernel
theorem dX0_latch_22 : decode cX0_latch 22 = .ok (.putfield 20, 3) := by decide +kernel
theorem dX0_latch_25 : decode cX0_latch 25 = .ok (.return_, 1) := by decide +kernel
theorem dX0_isLatched_0 : decode cX0_isLatched 0 = .ok (.aload_n 0, 1) := by decide +kernel
theorem dX0_isLatched_1 : decode cX0_isLatched 1 = .ok (.getfield 17, 3) := by decide +kernel
theorem dX0_isLatched_4 : decode cX0_isLatched 4 = .ok (.iload_n 1, 1) := by decide +kernel
theorem dX0_isLatched_5 : decode cX0_isLatched 5 = .ok (.iushr, 1) := by decide +kernel
theorem dX0_isLatched_6 : decode cX0_isLatched 6 = .ok (.iconst 1, 1) := by decide +kernel
theorem dX0_isLatched_7 : decode cX0_isLatched 7 = .ok (.iand, 1) := by decide +kernel
theorem dX0_isLatched_8 : decode cX0_isLatched 8 = .ok (.ifCond .eq 7, 3) := by decide +kernel
theorem dX0_isLatched_11 : decode cX0_isLatched 11 = .ok (.iconst 1, 1) := by decide +kernel
theorem dX0_isLatched_12 : decode cX0_isLatched 12 = .ok (.goto 4, 3) := by decide +kernel
theorem dX0_isLatched_15 : decode cX0_isLatched 15 = .ok (.iconst 0, 1) := by decide +kernel
theorem dX0_isLatched_16 : decode cX0_isLatched 16 = .ok (.ireturn, 1) := by decide +kernel
theorem dX0_anySerious_0 : decode cX0_anySerious 0 = .ok (.aload_n 0, 1) := by decide +kernel
theorem dX0_anySerious_1 : decode cX0_anySerious 1 = .ok (.getfield 17, 3) := by decide +kernel
theorem dX0_anySerious_4 : decode cX0_anySerious 4 = .ok (.sipush 477, 3) := by decide +kernel
theorem dX0_anySerious_7 : decode cX0_anySerious 7 = .ok (.iand, 1) := by decide +kernel
theorem dX0_anySerious_8 : decode cX0_anySerious 8 = .ok (.ifCond .eq 7, 3) := by decide +kernel
theorem dX0_anySerious_11 : decode cX0_anySerious 11 = .ok (.iconst 1, 1) := by decide +kernel
theorem dX0_anySerious_12 : decode cX0_anySerious 12 = .ok (.goto 4, 3) := by decide +kernel
theorem dX0_anySerious_15 : decode cX0_anySerious 15 = .ok (.iconst 0, 1) := by decide +kernel
theorem dX0_anySerious_16 : decode cX0_anySerious 16 = .ok (.ireturn, 1) := by decide +kernel
set_option maxRecDepth 20000 in
theorem ggX0_dismiss_X0_isLatched : GoodIn wsX0_dismiss wsX0_isLatched := goodIn_r _ [7, 2, 8, 9, 10, 11] (by decide +kernel) (by decide +kernel)
set_option maxRecDepth 20000 in
theorem gX0_dismiss_X0_isLatched : GoodIn wsX0_dismiss (wsV RX0 34 RX0 yX0_isLatched wsX0_isLatched) := goodIn_app (goodIn_of _ (by decide +kernel)) ggX0_dismiss_X0_isLatched
theorem dX0_dismiss_0 : decode cX0_dismiss 0 = .ok (.iload_n 1, 1) := by decide +kernel
theorem dX0_dismiss_1 : decode cX0_dismiss 1 = .ok (.bipush 7, 2) := by decide +kernel
theorem dX0_dismiss_3 : decode cX0_dismiss 3 = .ok (.if_icmp .ge 20, 3) := by decide +kernel
theorem dX0_dismiss_6 : decode cX0_dismiss 6 = .ok (.aload_n 0, 1) := by decide +kernel
theorem dX0_dismiss_7 : decode cX0_dismiss 7 = .ok (.getfield 9, 3) := by decide +kernel
theorem dX0_dismiss_10 : decode cX0_dismiss 10 = .ok (.iload_n 1, 1) := by decide +kernel
theorem dX0_dismiss_11 : decode cX0_dismiss 11 = .ok (.iaload, 1) := by decide +kernel
theorem dX0_dismiss_12 : decode cX0_dismiss 12 = .ok (.ifCond .ne 7, 3) := by decide +kernel
theorem dX0_dismiss_15 : decode cX0_dismiss 15 = .ok (.iconst 1, 1) := by decide +kernel
theorem dX0_dismiss_16 : decode cX0_dismiss 16 = .ok (.goto 8, 3) := by decide +kernel
theorem dX0_dismiss_19 : decode cX0_dismiss 19 = .ok (.iconst 0, 1) := by decide +kernel
theorem dX0_dismiss_20 : decode cX0_dismiss 20 = .ok (.goto 4, 3) := by decide +kernel
theorem dX0_dismiss_23 : decode cX0_dismiss 23 = .ok (.iload_n 2, 1) := by decide +kernel
theorem dX0_dismiss_24 : decode cX0_dismiss 24 = .ok (.istore_n 3, 1) := by decide +kernel
theorem dX0_dismiss_25 : decode cX0_dismiss 25 = .ok (.iload_n 3, 1) := by decide +kernel
theorem dX0_dismiss_26 : decode cX0_dismiss 26 = .ok (.ifCond .eq 11, 3) := by decide +kernel
theorem dX0_dismiss_29 : decode cX0_dismiss 29 = .ok (.aload_n 0, 1) := by decide +kernel
theorem dX0_dismiss_30 : decode cX0_dismiss 30 = .ok (.iload_n 1, 1) := by decide +kernel
theorem dX0_dismiss_31 : decode cX0_dismiss 31 = .ok (.invokevirtual 34, 3) := by decide +kernel
theorem dX0_dismiss_34 : decode cX0_dismiss 34 = .ok (.ifCond .ne 5, 3) := by decide +kernel
theorem dX0_dismiss_37 : decode cX0_dismiss 37 = .ok (.iconst 0, 1) := by decide +kernel
theorem dX0_dismiss_38 : decode cX0_dismiss 38 = .ok (.ireturn, 1) := by decide +kernel
theorem dX0_dismiss_39 : decode cX0_dismiss 39 = .ok (.aload_n 0, 1) := by decide +kernel
theorem dX0_dismiss_40 : decode cX0_dismiss 40 = .ok (.aload_n 0, 1) := by decide +kernel
theorem dX0_dismiss_41 : decode cX0_dismiss 41 = .ok (.getfield 17, 3) := by decide +kernel
theorem dX0_dismiss_44 : decode cX0_dismiss 44 = .ok (.iconst 1, 1) := by decide +kernel
theorem dX0_dismiss_45 : decode cX0_dismiss 45 = .ok (.iload_n 1, 1) := by decide +kernel
theorem dX0_dismiss_46 : decode cX0_dismiss 46 = .ok (.ishl, 1) := by decide +kernel
theorem dX0_dismiss_47 : decode cX0_dismiss 47 = .ok (.iconst (-1), 1) := by decide +kernel
theorem dX0_dismiss_48 : decode cX0_dismiss 48 = .ok (.ixor, 1) := by decide +kernel
theorem dX0_dismiss_49 : decode cX0_dismiss 49 = .ok (.iand, 1) := by decide +kernel
theorem dX0_dismiss_50 : decode cX0_dismiss 50 = .ok (.putfield 17, 3) := by decide +kernel
theorem dX0_dismiss_53 : decode cX0_dismiss 53 = .ok (.iconst 1, 1) := by decide +kernel
theorem dX0_dismiss_54 : decode cX0_dismiss 54 = .ok (.ireturn, 1) := by decide +kernel
theorem dX1_init_0 : decode cX1_init 0 = .ok (.aload_n 0, 1) := by decide +kernel
theorem dX1_init_1 : decode cX1_init 1 = .ok (.invokespecial 1, 3) := by decide +kernel
theorem dX1_init_4 : decode cX1_init 4 = .ok (.aload_n 0, 1) := by decide +kernel
theorem dX1_init_5 : decode cX1_init 5 = .ok (.bipush 32, 2) := by decide +kernel
theorem dX1_init_7 : decode cX1_init 7 = .ok (.newarray .byte, 2) := by decide +kernel
theorem dX1_init_9 : decode cX1_init 9 = .ok (.putfield 9, 3) := by decide +kernel
theorem dX1_init_12 : decode cX1_init 12 = .ok (.aload_n 0, 1) := by decide +kernel
theorem dX1_init_13 : decode cX1_init 13 = .ok (.iload_n 1, 1) := by decide +kernel
theorem dX1_init_14 : decode cX1_init 14 = .ok (.putfield 13, 3) := by decide +kernel
theorem dX1_init_17 : decode cX1_init 17 = .ok (.aload_n 0, 1) := by decide +kernel
theorem dX1_init_18 : decode cX1_init 18 = .ok (.iload_n 1, 1) := by decide +kernel
theorem dX1_init_19 : decode cX1_init 19 = .ok (.bipush 32, 2) := by decide +kernel
theorem dX1_init_21 : decode cX1_init 21 = .ok (.imul, 1) := by decide +kernel
theorem dX1_init_22 : decode cX1_init 22 = .ok (.newarray .byte, 2) := by decide +kernel
theorem dX1_init_24 : decode cX1_init 24 = .ok (.putfield 17, 3) := by decide +kernel
theorem dX1_init_27 : decode cX1_init 27 = .ok (.return_, 1) := by decide +kernel
theorem dX1_beginAnew_0 : decode cX1_beginAnew 0 = .ok (.aload_n 0, 1) := by decide +kernel
theorem dX1_beginAnew_1 : decode cX1_beginAnew 1 = .ok (.iconst 1, 1) := by decide +kernel
theorem dX1_beginAnew_2 : decode cX1_beginAnew 2 = .ok (.putfield 20, 3) := by decide +kernel
theorem dX1_beginAnew_5 : decode cX1_beginAnew 5 = .ok (.aload_n 0, 1) := by decide +kernel
theorem dX1_beginAnew_6 : decode cX1_beginAnew 6 = .ok (.bipush 32, 2) := by decide +kernel
theorem dX1_beginAnew_8 : decode cX1_beginAnew 8 = .ok (.putfield 23, 3) := by decide +kernel
theorem dX1_beginAnew_11 : decode cX1_beginAnew 11 = .ok (.return_, 1) := by decide +kernel
set_option maxRecDepth 20000 in
theorem ggX1_write_X1_lay : GoodIn wsX1_write wsX1_lay := goodIn_r _ [9, 2, 33, 34, 35, 36, 37] (by decide +kernel) (by decide +kernel)
set_option maxRecDepth 20000 in
theorem gX1_write_X1_lay : GoodIn wsX1_write (wsV RX1 26 RX1 yX1_lay wsX1_lay) := goodIn_app (goodIn_of _ (by decide +kernel)) ggX1_write_X1_lay
set_option maxRecDepth 20000 in
theorem ggX1_write_X2_ofRow : GoodIn wsX1_write wsX2_ofRow := goodIn_r _ [13, 14, 15, 16, 17, 18, 19, 20, 21, 22, 12, 23] (by decide +kernel) (by decide +kernel)
set_option maxRecDepth 20000 in
theorem gX1_write_X2_ofRow : GoodIn wsX1_write (va_wsS RX1 30 yX2_ofRow wsX2_ofRow) := goodIn_app (goodIn_of _ (by decide +kernel)) ggX1_write_X2_ofRow
set_option maxRecDepth 20000 in
theorem ggX1_write_X1_placeOf : GoodIn wsX1_write wsX1_placeOf := goodIn_r _ [27, 28, 29, 30, 31, 32, 33, 34, 35, 36, 37] (by decide +kernel) (by decide +kernel)
set_option maxRecDepth 20000 in
theorem gX1_write_X1_placeOf : GoodIn wsX1_write (wsV RX1 36 RX1 yX1_placeOf wsX1_placeOf) := goodIn_app (goodIn_of _ (by decide +kernel)) ggX1_write_X1_placeOf
theorem dX1_write_0 : decode cX1_write 0 = .ok (.aload_n 0, 1) := by decide +kernel
theorem dX1_write_1 : decode cX1_write 1 = .ok (.iconst 0, 1) := by decide +kernel
theorem dX1_write_2 : decode cX1_write 2 = .ok (.iconst 4, 1) := by decide +kernel
theorem dX1_write_3 : decode cX1_write 3 = .ok (.aload_n 0, 1) := by decide +kernel
theorem dX1_write_4 : decode cX1_write 4 = .ok (.getfield 20, 3) := by decide +kernel
theorem dX1_write_7 : decode cX1_write 7 = .ok (.i2l, 1) := by decide +kernel
theorem dX1_write_8 : decode cX1_write 8 = .ok (.invokevirtual 26, 3) := by decide +kernel
theorem dX1_write_11 : decode cX1_write 11 = .ok (.aload_n 0, 1) := by decide +kernel
theorem dX1_write_12 : decode cX1_write 12 = .ok (.iconst 4, 1) := by decide +kernel
theorem dX1_write_13 : decode cX1_write 13 = .ok (.iconst 4, 1) := by decide +kernel
theorem dX1_write_14 : decode cX1_write 14 = .ok (.iload_n 1, 1) := by decide +kernel
theorem dX1_write_15 : decode cX1_write 15 = .ok (.i2l, 1) := by decide +kernel
theorem dX1_write_16 : decode cX1_write 16 = .ok (.invokevirtual 26, 3) := by decide +kernel
theorem dX1_write_19 : decode cX1_write 19 = .ok (.aload_n 0, 1) := by decide +kernel
theorem dX1_write_20 : decode cX1_write 20 = .ok (.bipush 8, 2) := by decide +kernel
theorem dX1_write_22 : decode cX1_write 22 = .ok (.bipush 8, 2) := by decide +kernel
theorem dX1_write_24 : decode cX1_write 24 = .ok (.lload_n 2, 1) := by decide +kernel
theorem dX1_write_25 : decode cX1_write 25 = .ok (.invokevirtual 26, 3) := by decide +kernel
theorem dX1_write_28 : decode cX1_write 28 = .ok (.aload_n 0, 1) := by decide +kernel
theorem dX1_write_29 : decode cX1_write 29 = .ok (.bipush 16, 2) := by decide +kernel
theorem dX1_write_31 : decode cX1_write 31 = .ok (.iconst 2, 1) := by decide +kernel
theorem dX1_write_32 : decode cX1_write 32 = .ok (.iload 4, 2) := by decide +kernel
theorem dX1_write_34 : decode cX1_write 34 = .ok (.i2l, 1) := by decide +kernel
theorem dX1_write_35 : decode cX1_write 35 = .ok (.invokevirtual 26, 3) := by decide +kernel
theorem dX1_write_38 : decode cX1_write 38 = .ok (.aload_n 0, 1) := by decide +kernel
theorem dX1_write_39 : decode cX1_write 39 = .ok (.bipush 18, 2) := by decide +kernel
theorem dX1_write_41 : decode cX1_write 41 = .ok (.iconst 2, 1) := by decide +kernel
theorem dX1_write_42 : decode cX1_write 42 = .ok (.iload 5, 2) := by decide +kernel
theorem dX1_write_44 : decode cX1_write 44 = .ok (.i2l, 1) := by decide +kernel
theorem dX1_write_45 : decode cX1_write 45 = .ok (.invokevirtual 26, 3) := by decide +kernel
theorem dX1_write_48 : decode cX1_write 48 = .ok (.aload_n 0, 1) := by decide +kernel
theorem dX1_write_49 : decode cX1_write 49 = .ok (.bipush 30, 2) := by decide +kernel
theorem dX1_write_51 : decode cX1_write 51 = .ok (.iconst 2, 1) := by decide +kernel
theorem dX1_write_52 : decode cX1_write 52 = .ok (.aload_n 0, 1) := by decide +kernel
theorem dX1_write_53 : decode cX1_write 53 = .ok (.getfield 9, 3) := by decide +kernel
theorem dX1_write_56 : decode cX1_write 56 = .ok (.iconst 0, 1) := by decide +kernel
theorem dX1_write_57 : decode cX1_write 57 = .ok (.bipush 30, 2) := by decide +kernel
theorem dX1_write_59 : decode cX1_write 59 = .ok (.invokestatic 30, 3) := by decide +kernel
theorem dX1_write_62 : decode cX1_write 62 = .ok (.i2l, 1) := by decide +kernel
theorem dX1_write_63 : decode cX1_write 63 = .ok (.invokevirtual 26, 3) := by decide +kernel
theorem dX1_write_66 : decode cX1_write 66 = .ok (.aload_n 0, 1) := by decide +kernel
theorem dX1_write_67 : decode cX1_write 67 = .ok (.aload_n 0, 1) := by decide +kernel
theorem dX1_write_68 : decode cX1_write 68 = .ok (.getfield 20, 3) := by decide +kernel
theorem dX1_write_71 : decode cX1_write 71 = .ok (.invokevirtual 36, 3) := by decide +kernel
theorem dX1_write_74 : decode cX1_write 74 = .ok (.bipush 32, 2) := by decide +kernel
theorem dX1_write_76 : decode cX1_write 76 = .ok (.imul, 1) := by decide +kernel
theorem dX1_write_77 : decode cX1_write 77 = .ok (.istore 6, 2) := by decide +kernel
theorem dX1_write_79 : decode cX1_write 79 = .ok (.iconst 0, 1) := by decide +kernel
theorem dX1_write_80 : decode cX1_write 80 = .ok (.istore 7, 2) := by decide +kernel
theorem dX1_write_82 : decode cX1_write 82 = .ok (.iload 7, 2) := by decide +kernel
theorem dX1_write_84 : decode cX1_write 84 = .ok (.aload_n 0, 1) := by decide +kernel
theorem dX1_write_85 : decode cX1_write 85 = .ok (.getfield 23, 3) := by decide +kernel
theorem dX1_write_88 : decode cX1_write 88 = .ok (.if_icmp .ge 26, 3) := by decide +kernel
theorem dX1_write_91 : decode cX1_write 91 = .ok (.aload_n 0, 1) := by decide +kernel
theorem dX1_write_92 : decode cX1_write 92 = .ok (.getfield 17, 3) := by decide +kernel
theorem dX1_write_95 : decode cX1_write 95 = .ok (.iload 6, 2) := by decide +kernel
theorem dX1_write_97 : decode cX1_write 97 = .ok (.iload 7, 2) := by decide +kernel
theorem dX1_write_99 : decode cX1_write 99 = .ok (.iadd, 1) := by decide +kernel
theorem dX1_write_100 : decode cX1_write 100 = .ok (.aload_n 0, 1) := by decide +kernel
theorem dX1_write_101 : decode cX1_write 101 = .ok (.getfield 9, 3) := by decide +kernel
theorem dX1_write_104 : decode cX1_write 104 = .ok (.iload 7, 2) := by decide +kernel
theorem dX1_write_106 : decode cX1_write 106 = .ok (.baload, 1) := by decide +kernel
theorem dX1_write_107 : decode cX1_write 107 = .ok (.bastore, 1) := by decide +kernel
theorem dX1_write_108 : decode cX1_write 108 = .ok (.iinc 7 1, 3) := by decide +kernel
theorem dX1_write_111 : decode cX1_write 111 = .ok (.goto (-29), 3) := by decide +kernel
theorem dX1_write_114 : decode cX1_write 114 = .ok (.aload_n 0, 1) := by decide +kernel
theorem dX1_write_115 : decode cX1_write 115 = .ok (.dup, 1) := by decide +kernel
theorem dX1_write_116 : decode cX1_write 116 = .ok (.getfield 20, 3) := by decide +kernel
theorem dX1_write_119 : decode cX1_write 119 = .ok (.iconst 1, 1) := by decide +kernel
theorem dX1_write_120 : decode cX1_write 120 = .ok (.iadd, 1) := by decide +kernel
theorem dX1_write_121 : decode cX1_write 121 = .ok (.putfield 20, 3) := by decide +kernel
theorem dX1_write_124 : decode cX1_write 124 = .ok (.aload_n 0, 1) := by decide +kernel
theorem dX1_write_125 : decode cX1_write 125 = .ok (.getfield 23, 3) := by decide +kernel
theorem dX1_write_128 : decode cX1_write 128 = .ok (.bipush 32, 2) := by decide +kernel
theorem dX1_write_130 : decode cX1_write 130 = .ok (.if_icmp .ne 7, 3) := by decide +kernel
theorem dX1_write_133 : decode cX1_write 133 = .ok (.iconst 1, 1) := by decide +kernel
theorem dX1_write_134 : decode cX1_write 134 = .ok (.goto 4, 3) := by decide +kernel
theorem dX1_write_137 : decode cX1_write 137 = .ok (.iconst 0, 1) := by decide +kernel
theorem dX1_write_138 : decode cX1_write 138 = .ok (.ireturn, 1) := by decide +kernel
set_option maxRecDepth 20000 in
theorem ggX1_placeOf_J9_floorMod_7cf53 : GoodIn wsX1_placeOf wsJ9_floorMod_7cf53 := goodIn_r _ [5] (by decide +kernel) (by decide +kernel)
set_option maxRecDepth 20000 in
theorem gX1_placeOf_J9_floorMod_7cf53 : GoodIn wsX1_placeOf (va_wsS RX1 40 yJ9_floorMod_7cf53 wsJ9_floorMod_7cf53) := goodIn_app (goodIn_of _ (by decide +kernel)) ggX1_placeOf_J9_floorMod_7cf53
theorem dX1_placeOf_0 : decode cX1_placeOf 0 = .ok (.iload_n 1, 1) := by decide +kernel
theorem dX1_placeOf_1 : decode cX1_placeOf 1 = .ok (.iconst 1, 1) := by decide +kernel
theorem dX1_placeOf_2 : decode cX1_placeOf 2 = .ok (.isub, 1) := by decide +kernel
theorem dX1_placeOf_3 : decode cX1_placeOf 3 = .ok (.aload_n 0, 1) := by decide +kernel
theorem dX1_placeOf_4 : decode cX1_placeOf 4 = .ok (.getfield 13, 3) := by decide +kernel
theorem dX1_placeOf_7 : decode cX1_placeOf 7 = .ok (.invokestatic 40, 3) := by decide +kernel
theorem dX1_placeOf_10 : decode cX1_placeOf 10 = .ok (.ireturn, 1) := by decide +kernel
theorem dX1_lay_0 : decode cX1_lay 0 = .ok (.iconst 0, 1) := by decide +kernel
theorem dX1_lay_1 : decode cX1_lay 1 = .ok (.istore 5, 2) := by decide +kernel
theorem dX1_lay_3 : decode cX1_lay 3 = .ok (.iload 5, 2) := by decide +kernel
theorem dX1_lay_5 : decode cX1_lay 5 = .ok (.iload_n 2, 1) := by decide +kernel
theorem dX1_lay_6 : decode cX1_lay 6 = .ok (.if_icmp .ge 27, 3) := by decide +kernel
theorem dX1_lay_9 : decode cX1_lay 9 = .ok (.aload_n 0, 1) := by decide +kernel
theorem dX1_lay_10 : decode cX1_lay 10 = .ok (.getfield 9, 3) := by decide +kernel
theorem dX1_lay_13 : decode cX1_lay 13 = .ok (.iload_n 1, 1) := by decide +kernel
theorem dX1_lay_14 : decode cX1_lay 14 = .ok (.iload 5, 2) := by decide +kernel
theorem dX1_lay_16 : decode cX1_lay 16 = .ok (.iadd, 1) := by decide +kernel
theorem dX1_lay_17 : decode cX1_lay 17 = .ok (.lload_n 3, 1) := by decide +kernel
theorem dX1_lay_18 : decode cX1_lay 18 = .ok (.bipush 8, 2) := by decide +kernel
theorem dX1_lay_20 : decode cX1_lay 20 = .ok (.iload 5, 2) := by decide +kernel
theorem dX1_lay_22 : decode cX1_lay 22 = .ok (.imul, 1) := by decide +kernel
theorem dX1_lay_23 : decode cX1_lay 23 = .ok (.lushr, 1) := by decide +kernel
theorem dX1_lay_24 : decode cX1_lay 24 = .ok (.l2i, 1) := by decide +kernel
theorem dX1_lay_25 : decode cX1_lay 25 = .ok (.i2b, 1) := by decide +kernel
theorem dX1_lay_26 : decode cX1_lay 26 = .ok (.bastore, 1) := by decide +kernel
theorem dX1_lay_27 : decode cX1_lay 27 = .ok (.iinc 5 1, 3) := by decide +kernel
theorem dX1_lay_30 : decode cX1_lay 30 = .ok (.goto (-27), 3) := by decide +kernel
theorem dX1_lay_33 : decode cX1_lay 33 = .ok (.return_, 1) := by decide +kernel
theorem dX1_fetch_0 : decode cX1_fetch 0 = .ok (.lconst 0, 1) := by decide +kernel
theorem dX1_fetch_1 : decode cX1_fetch 1 = .ok (.lstore_n 3, 1) := by decide +kernel
theorem dX1_fetch_2 : decode cX1_fetch 2 = .ok (.iconst 0, 1) := by decide +kernel
theorem dX1_fetch_3 : decode cX1_fetch 3 = .ok (.istore 5, 2) := by decide +kernel
theorem dX1_fetch_5 : decode cX1_fetch 5 = .ok (.iload 5, 2) := by decide +kernel
theorem dX1_fetch_7 : decode cX1_fetch 7 = .ok (.iload_n 2, 1) := by decide +kernel
theorem dX1_fetch_8 : decode cX1_fetch 8 = .ok (.if_icmp .ge 32, 3) := by decide +kernel
theorem dX1_fetch_11 : decode cX1_fetch 11 = .ok (.lload_n 3, 1) := by decide +kernel
theorem dX1_fetch_12 : decode cX1_fetch 12 = .ok (.aload_n 0, 1) := by decide +kernel
theorem dX1_fetch_13 : decode cX1_fetch 13 = .ok (.getfield 17, 3) := by decide +kernel
theorem dX1_fetch_16 : decode cX1_fetch 16 = .ok (.iload_n 1, 1) := by decide +kernel
theorem dX1_fetch_17 : decode cX1_fetch 17 = .ok (.iload 5, 2) := by decide +kernel
theorem dX1_fetch_19 : decode cX1_fetch 19 = .ok (.iadd, 1) := by decide +kernel
theorem dX1_fetch_20 : decode cX1_fetch 20 = .ok (.baload, 1) := by decide +kernel
theorem dX1_fetch_21 : decode cX1_fetch 21 = .ok (.i2l, 1) := by decide +kernel
theorem dX1_fetch_22 : decode cX1_fetch 22 = .ok (.ldc2_w 46, 3) := by decide +kernel
theorem dX1_fetch_25 : decode cX1_fetch 25 = .ok (.land, 1) := by decide +kernel
theorem dX1_fetch_26 : decode cX1_fetch 26 = .ok (.bipush 8, 2) := by decide +kernel
theorem dX1_fetch_28 : decode cX1_fetch 28 = .ok (.iload 5, 2) := by decide +kernel
theorem dX1_fetch_30 : decode cX1_fetch 30 = .ok (.imul, 1) := by decide +kernel
theorem dX1_fetch_31 : decode cX1_fetch 31 = .ok (.lshl, 1) := by decide +kernel
theorem dX1_fetch_32 : decode cX1_fetch 32 = .ok (.lor, 1) := by decide +kernel
theorem dX1_fetch_33 : decode cX1_fetch 33 = .ok (.lstore_n 3, 1) := by decide +kernel
theorem dX1_fetch_34 : decode cX1_fetch 34 = .ok (.iinc 5 1, 3) := by decide +kernel
theorem dX1_fetch_37 : decode cX1_fetch 37 = .ok (.goto (-32), 3) := by decide +kernel
theorem dX1_fetch_40 : decode cX1_fetch 40 = .ok (.lload_n 3, 1) := by decide +kernel
theorem dX1_fetch_41 : decode cX1_fetch 41 = .ok (.lreturn, 1) := by decide +kernel
set_option maxRecDepth 20000 in
theorem ggX1_newestPlace_X1_isGood : GoodIn wsX1_newestPlace wsX1_isGood := goodIn_r _ [6, 7, 8, 9, 10, 11, 5, 12, 13, 14, 15, 16, 17, 18, 19, 20, 21, 1, 22, 23, 24, 25, 26, 27, 28, 29, 30, 31, 32, 33, 34, 35, 36, 37, 38, 39, 40, 41, 42, 43, 44] (by decide +kernel) (by decide +kernel)
set_option maxRecDepth 20000 in
theorem gX1_newestPlace_X1_isGood : GoodIn wsX1_newestPlace (wsV RX1 48 RX1 yX1_isGood wsX1_isGood) := goodIn_app (goodIn_of _ (by decide +kernel)) ggX1_newestPlace_X1_isGood
set_option maxRecDepth 20000 in
theorem ggX1_newestPlace_X1_numberAt : GoodIn wsX1_newestPlace wsX1_numberAt := goodIn_r _ [12, 13, 14, 15, 5, 16, 8, 17, 40, 41, 42, 43, 44] (by decide +kernel) (by decide +kernel)
set_option maxRecDepth 20000 in
theorem gX1_newestPlace_X1_numberAt : GoodIn wsX1_newestPlace (wsV RX1 52 RX1 yX1_numberAt wsX1_numberAt) := goodIn_app (goodIn_of _ (by decide +kernel)) ggX1_newestPlace_X1_numberAt
theorem dX1_newestPlace_0 : decode cX1_newestPlace 0 = .ok (.iconst (-1), 1) := by decide +kernel
theorem dX1_newestPlace_1 : decode cX1_newestPlace 1 = .ok (.istore_n 1, 1) := by decide +kernel
theorem dX1_newestPlace_2 : decode cX1_newestPlace 2 = .ok (.iconst 0, 1) := by decide +kernel
theorem dX1_newestPlace_3 : decode cX1_newestPlace 3 = .ok (.istore_n 2, 1) := by decide +kernel
theorem dX1_newestPlace_4 : decode cX1_newestPlace 4 = .ok (.iload_n 2, 1) := by decide +kernel
theorem dX1_newestPlace_5 : decode cX1_newestPlace 5 = .ok (.aload_n 0, 1) := by decide +kernel
theorem dX1_newestPlace_6 : decode cX1_newestPlace 6 = .ok (.getfield 13, 3) := by decide +kernel
theorem dX1_newestPlace_9 : decode cX1_newestPlace 9 = .ok (.if_icmp .ge 36, 3) := by decide +kernel
theorem dX1_newestPlace_12 : decode cX1_newestPlace 12 = .ok (.aload_n 0, 1) := by decide +kernel
theorem dX1_newestPlace_13 : decode cX1_newestPlace 13 = .ok (.iload_n 2, 1) := by decide +kernel
theorem dX1_newestPlace_14 : decode cX1_newestPlace 14 = .ok (.invokevirtual 48, 3) := by decide +kernel
theorem dX1_newestPlace_17 : decode cX1_newestPlace 17 = .ok (.ifCond .eq 22, 3) := by decide +kernel
theorem dX1_newestPlace_20 : decode cX1_newestPlace 20 = .ok (.iload_n 1, 1) := by decide +kernel
theorem dX1_newestPlace_21 : decode cX1_newestPlace 21 = .ok (.ifCond .lt 16, 3) := by decide +kernel
theorem dX1_newestPlace_24 : decode cX1_newestPlace 24 = .ok (.aload_n 0, 1) := by decide +kernel
theorem dX1_newestPlace_25 : decode cX1_newestPlace 25 = .ok (.iload_n 2, 1) := by decide +kernel
theorem dX1_newestPlace_26 : decode cX1_newestPlace 26 = .ok (.invokevirtual 52, 3) := by decide +kernel
theorem dX1_newestPlace_29 : decode cX1_newestPlace 29 = .ok (.aload_n 0, 1) := by decide +kernel
theorem dX1_newestPlace_30 : decode cX1_newestPlace 30 = .ok (.iload_n 1, 1) := by decide +kernel
theorem dX1_newestPlace_31 : decode cX1_newestPlace 31 = .ok (.invokevirtual 52, 3) := by decide +kernel
theorem dX1_newestPlace_34 : decode cX1_newestPlace 34 = .ok (.if_icmp .le 5, 3) := by decide +kernel
theorem dX1_newestPlace_37 : decode cX1_newestPlace 37 = .ok (.iload_n 2, 1) := by decide +kernel
theorem dX1_newestPlace_38 : decode cX1_newestPlace 38 = .ok (.istore_n 1, 1) := by decide +kernel
theorem dX1_newestPlace_39 : decode cX1_newestPlace 39 = .ok (.iinc 2 1, 3) := by decide +kernel
theorem dX1_newestPlace_42 : decode cX1_newestPlace 42 = .ok (.goto (-38), 3) := by decide +kernel
theorem dX1_newestPlace_45 : decode cX1_newestPlace 45 = .ok (.iload_n 1, 1) := by decide +kernel
theorem dX1_newestPlace_46 : decode cX1_newestPlace 46 = .ok (.ireturn, 1) := by decide +kernel
set_option maxRecDepth 20000 in
theorem ggX1_isGood_X1_numberAt : GoodIn wsX1_isGood wsX1_numberAt := goodIn_r _ [7, 8, 9, 10, 6, 11, 2, 12, 36, 37, 38, 39, 40] (by decide +kernel) (by decide +kernel)
set_option maxRecDepth 20000 in
theorem gX1_isGood_X1_numberAt : GoodIn wsX1_isGood (wsV RX1 52 RX1 yX1_numberAt wsX1_numberAt) := goodIn_app (goodIn_of _ (by decide +kernel)) ggX1_isGood_X1_numberAt
set_option maxRecDepth 20000 in
theorem ggX1_isGood_X1_placeOf : GoodIn wsX1_isGood wsX1_placeOf := goodIn_r _ [16, 17, 18, 19, 20, 21, 36, 37, 38, 39, 40] (by decide +kernel) (by decide +kernel)
set_option maxRecDepth 20000 in
theorem gX1_isGood_X1_placeOf : GoodIn wsX1_isGood (wsV RX1 36 RX1 yX1_placeOf wsX1_placeOf) := goodIn_app (goodIn_of _ (by decide +kernel)) ggX1_isGood_X1_placeOf
set_option maxRecDepth 20000 in
theorem ggX1_isGood_X1_fetch : GoodIn wsX1_isGood wsX1_fetch := goodIn_r _ [11, 2, 12, 36, 37, 38, 39, 40] (by decide +kernel) (by decide +kernel)
set_option maxRecDepth 20000 in
theorem gX1_isGood_X1_fetch : GoodIn wsX1_isGood (wsV RX1 56 RX1 yX1_fetch wsX1_fetch) := goodIn_app (goodIn_of _ (by decide +kernel)) ggX1_isGood_X1_fetch
set_option maxRecDepth 20000 in
theorem ggX1_isGood_X2_ofRow : GoodIn wsX1_isGood wsX2_ofRow := goodIn_r _ [25, 26, 27, 28, 29, 30, 31, 32, 33, 34, 24, 35] (by decide +kernel) (by decide +kernel)
set_option maxRecDepth 20000 in
theorem gX1_isGood_X2_ofRow : GoodIn wsX1_isGood (va_wsS RX1 30 yX2_ofRow wsX2_ofRow) := goodIn_app (goodIn_of _ (by decide +kernel)) ggX1_isGood_X2_ofRow
theorem dX1_isGood_0 : decode cX1_isGood 0 = .ok (.iload_n 1, 1) := by decide +kernel
theorem dX1_isGood_1 : decode cX1_isGood 1 = .ok (.bipush 32, 2) := by decide +kernel
theorem dX1_isGood_3 : decode cX1_isGood 3 = .ok (.imul, 1) := by decide +kernel
theorem dX1_isGood_4 : decode cX1_isGood 4 = .ok (.istore_n 2, 1) := by decide +kernel
theorem dX1_isGood_5 : decode cX1_isGood 5 = .ok (.aload_n 0, 1) := by decide +kernel
theorem dX1_isGood_6 : decode cX1_isGood 6 = .ok (.iload_n 1, 1) := by decide +kernel
theorem dX1_isGood_7 : decode cX1_isGood 7 = .ok (.invokevirtual 52, 3) := by decide +kernel
theorem dX1_isGood_10 : decode cX1_isGood 10 = .ok (.istore_n 3, 1) := by decide +kernel
theorem dX1_isGood_11 : decode cX1_isGood 11 = .ok (.iload_n 3, 1) := by decide +kernel
theorem dX1_isGood_12 : decode cX1_isGood 12 = .ok (.iconst 1, 1) := by decide +kernel
theorem dX1_isGood_13 : decode cX1_isGood 13 = .ok (.if_icmp .lt 46, 3) := by decide +kernel
theorem dX1_isGood_16 : decode cX1_isGood 16 = .ok (.iload_n 3, 1) := by decide +kernel
theorem dX1_isGood_17 : decode cX1_isGood 17 = .ok (.ldc 55, 2) := by decide +kernel
theorem dX1_isGood_19 : decode cX1_isGood 19 = .ok (.if_icmp .gt 40, 3) := by decide +kernel
theorem dX1_isGood_22 : decode cX1_isGood 22 = .ok (.aload_n 0, 1) := by decide +kernel
theorem dX1_isGood_23 : decode cX1_isGood 23 = .ok (.iload_n 3, 1) := by decide +kernel
theorem dX1_isGood_24 : decode cX1_isGood 24 = .ok (.invokevirtual 36, 3) := by decide +kernel
theorem dX1_isGood_27 : decode cX1_isGood 27 = .ok (.iload_n 1, 1) := by decide +kernel
theorem dX1_isGood_28 : decode cX1_isGood 28 = .ok (.if_icmp .ne 31, 3) := by decide +kernel
theorem dX1_isGood_31 : decode cX1_isGood 31 = .ok (.aload_n 0, 1) := by decide +kernel
theorem dX1_isGood_32 : decode cX1_isGood 32 = .ok (.iload_n 2, 1) := by decide +kernel
theorem dX1_isGood_33 : decode cX1_isGood 33 = .ok (.bipush 30, 2) := by decide +kernel
theorem dX1_isGood_35 : decode cX1_isGood 35 = .ok (.iadd, 1) := by decide +kernel
theorem dX1_isGood_36 : decode cX1_isGood 36 = .ok (.iconst 2, 1) := by decide +kernel
theorem dX1_isGood_37 : decode cX1_isGood 37 = .ok (.invokevirtual 56, 3) := by decide +kernel
theorem dX1_isGood_40 : decode cX1_isGood 40 = .ok (.aload_n 0, 1) := by decide +kernel
theorem dX1_isGood_41 : decode cX1_isGood 41 = .ok (.getfield 17, 3) := by decide +kernel
theorem dX1_isGood_44 : decode cX1_isGood 44 = .ok (.iload_n 2, 1) := by decide +kernel
theorem dX1_isGood_45 : decode cX1_isGood 45 = .ok (.bipush 30, 2) := by decide +kernel
theorem dX1_isGood_47 : decode cX1_isGood 47 = .ok (.invokestatic 30, 3) := by decide +kernel
theorem dX1_isGood_50 : decode cX1_isGood 50 = .ok (.i2l, 1) := by decide +kernel
theorem dX1_isGood_51 : decode cX1_isGood 51 = .ok (.lcmp, 1) := by decide +kernel
theorem dX1_isGood_52 : decode cX1_isGood 52 = .ok (.ifCond .ne 7, 3) := by decide +kernel
theorem dX1_isGood_55 : decode cX1_isGood 55 = .ok (.iconst 1, 1) := by decide +kernel
theorem dX1_isGood_56 : decode cX1_isGood 56 = .ok (.goto 4, 3) := by decide +kernel
theorem dX1_isGood_59 : decode cX1_isGood 59 = .ok (.iconst 0, 1) := by decide +kernel
theorem dX1_isGood_60 : decode cX1_isGood 60 = .ok (.ireturn, 1) := by decide +kernel
set_option maxRecDepth 20000 in
theorem ggX1_numberAt_X1_fetch : GoodIn wsX1_numberAt wsX1_fetch := goodIn_r _ [5, 6, 7, 8, 9, 10, 11, 12] (by decide +kernel) (by decide +kernel)
set_option maxRecDepth 20000 in
theorem gX1_numberAt_X1_fetch : GoodIn wsX1_numberAt (wsV RX1 56 RX1 yX1_fetch wsX1_fetch) := goodIn_app (goodIn_of _ (by decide +kernel)) ggX1_numberAt_X1_fetch
theorem dX1_numberAt_0 : decode cX1_numberAt 0 = .ok (.aload_n 0, 1) := by decide +kernel
theorem dX1_numberAt_1 : decode cX1_numberAt 1 = .ok (.iload_n 1, 1) := by decide +kernel
theorem dX1_numberAt_2 : decode cX1_numberAt 2 = .ok (.bipush 32, 2) := by decide +kernel
theorem dX1_numberAt_4 : decode cX1_numberAt 4 = .ok (.imul, 1) := by decide +kernel
theorem dX1_numberAt_5 : decode cX1_numberAt 5 = .ok (.iconst 0, 1) := by decide +kernel
theorem dX1_numberAt_6 : decode cX1_numberAt 6 = .ok (.iadd, 1) := by decide +kernel
theorem dX1_numberAt_7 : decode cX1_numberAt 7 = .ok (.iconst 4, 1) := by decide +kernel
theorem dX1_numberAt_8 : decode cX1_numberAt 8 = .ok (.invokevirtual 56, 3) := by decide +kernel
theorem dX1_numberAt_11 : decode cX1_numberAt 11 = .ok (.l2i, 1) := by decide +kernel
theorem dX1_numberAt_12 : decode cX1_numberAt 12 = .ok (.ireturn, 1) := by decide +kernel
set_option maxRecDepth 20000 in
theorem ggX1_timeAt_X1_fetch : GoodIn wsX1_timeAt wsX1_fetch := goodIn_r _ [5, 6, 7, 8, 9, 10, 11, 12] (by decide +kernel) (by decide +kernel)
set_option maxRecDepth 20000 in
theorem gX1_timeAt_X1_fetch : GoodIn wsX1_timeAt (wsV RX1 56 RX1 yX1_fetch wsX1_fetch) := goodIn_app (goodIn_of _ (by decide +kernel)) ggX1_timeAt_X1_fetch
theorem dX1_timeAt_0 : decode cX1_timeAt 0 = .ok (.aload_n 0, 1) := by decide +kernel
theorem dX1_timeAt_1 : decode cX1_timeAt 1 = .ok (.iload_n 1, 1) := by decide +kernel
theorem dX1_timeAt_2 : decode cX1_timeAt 2 = .ok (.bipush 32, 2) := by decide +kernel
theorem dX1_timeAt_4 : decode cX1_timeAt 4 = .ok (.imul, 1) := by decide +kernel
theorem dX1_timeAt_5 : decode cX1_timeAt 5 = .ok (.iconst 4, 1) := by decide +kernel
theorem dX1_timeAt_6 : decode cX1_timeAt 6 = .ok (.iadd, 1) := by decide +kernel
theorem dX1_timeAt_7 : decode cX1_timeAt 7 = .ok (.iconst 4, 1) := by decide +kernel
theorem dX1_timeAt_8 : decode cX1_timeAt 8 = .ok (.invokevirtual 56, 3) := by decide +kernel
theorem dX1_timeAt_11 : decode cX1_timeAt 11 = .ok (.l2i, 1) := by decide +kernel
theorem dX1_timeAt_12 : decode cX1_timeAt 12 = .ok (.ireturn, 1) := by decide +kernel
set_option maxRecDepth 20000 in
theorem ggX1_partsAt_X1_fetch : GoodIn wsX1_partsAt wsX1_fetch := goodIn_r _ [5, 6, 7, 8, 9, 10, 11, 12] (by decide +kernel) (by decide +kernel)
set_option maxRecDepth 20000 in
theorem gX1_partsAt_X1_fetch : GoodIn wsX1_partsAt (wsV RX1 56 RX1 yX1_fetch wsX1_fetch) := goodIn_app (goodIn_of _ (by decide +kernel)) ggX1_partsAt_X1_fetch
theorem dX1_partsAt_0 : decode cX1_partsAt 0 = .ok (.aload_n 0, 1) := by decide +kernel
theorem dX1_partsAt_1 : decode cX1_partsAt 1 = .ok (.iload_n 1, 1) := by decide +kernel
theorem dX1_partsAt_2 : decode cX1_partsAt 2 = .ok (.bipush 32, 2) := by decide +kernel
theorem dX1_partsAt_4 : decode cX1_partsAt 4 = .ok (.imul, 1) := by decide +kernel
theorem dX1_partsAt_5 : decode cX1_partsAt 5 = .ok (.bipush 8, 2) := by decide +kernel
theorem dX1_partsAt_7 : decode cX1_partsAt 7 = .ok (.iadd, 1) := by decide +kernel
theorem dX1_partsAt_8 : decode cX1_partsAt 8 = .ok (.bipush 8, 2) := by decide +kernel
theorem dX1_partsAt_10 : decode cX1_partsAt 10 = .ok (.invokevirtual 56, 3) := by decide +kernel
theorem dX1_partsAt_13 : decode cX1_partsAt 13 = .ok (.lreturn, 1) := by decide +kernel
set_option maxRecDepth 20000 in
theorem ggX1_faultsAt_X1_fetch : GoodIn wsX1_faultsAt wsX1_fetch := goodIn_r _ [5, 6, 7, 8, 9, 10, 11, 12] (by decide +kernel) (by decide +kernel)
set_option maxRecDepth 20000 in
theorem gX1_faultsAt_X1_fetch : GoodIn wsX1_faultsAt (wsV RX1 56 RX1 yX1_fetch wsX1_fetch) := goodIn_app (goodIn_of _ (by decide +kernel)) ggX1_faultsAt_X1_fetch
theorem dX1_faultsAt_0 : decode cX1_faultsAt 0 = .ok (.aload_n 0, 1) := by decide +kernel
theorem dX1_faultsAt_1 : decode cX1_faultsAt 1 = .ok (.iload_n 1, 1) := by decide +kernel
theorem dX1_faultsAt_2 : decode cX1_faultsAt 2 = .ok (.bipush 32, 2) := by decide +kernel
theorem dX1_faultsAt_4 : decode cX1_faultsAt 4 = .ok (.imul, 1) := by decide +kernel
theorem dX1_faultsAt_5 : decode cX1_faultsAt 5 = .ok (.bipush 16, 2) := by decide +kernel
theorem dX1_faultsAt_7 : decode cX1_faultsAt 7 = .ok (.iadd, 1) := by decide +kernel
theorem dX1_faultsAt_8 : decode cX1_faultsAt 8 = .ok (.iconst 2, 1) := by decide +kernel
theorem dX1_faultsAt_9 : decode cX1_faultsAt 9 = .ok (.invokevirtual 56, 3) := by decide +kernel
theorem dX1_faultsAt_12 : decode cX1_faultsAt 12 = .ok (.l2i, 1) := by decide +kernel
theorem dX1_faultsAt_13 : decode cX1_faultsAt 13 = .ok (.sipush 511, 3) := by decide +kernel
theorem dX1_faultsAt_16 : decode cX1_faultsAt 16 = .ok (.iand, 1) := by decide +kernel
theorem dX1_faultsAt_17 : decode cX1_faultsAt 17 = .ok (.ireturn, 1) := by decide +kernel
set_option maxRecDepth 20000 in
theorem ggX2_ofReply_X2_withByte : GoodIn wsX2_ofReply wsX2_withByte := goodIn_r _ [4] (by decide +kernel) (by decide +kernel)
set_option maxRecDepth 20000 in
theorem gX2_ofReply_X2_withByte : GoodIn wsX2_ofReply (va_wsS RX2 7 yX2_withByte wsX2_withByte) := goodIn_app (goodIn_of _ (by decide +kernel)) ggX2_ofReply_X2_withByte
theorem dX2_ofReply_0 : decode cX2_ofReply 0 = .ok (.iconst 0, 1) := by decide +kernel
theorem dX2_ofReply_1 : decode cX2_ofReply 1 = .ok (.istore 4, 2) := by decide +kernel
theorem dX2_ofReply_3 : decode cX2_ofReply 3 = .ok (.bipush 56, 2) := by decide +kernel
theorem dX2_ofReply_5 : decode cX2_ofReply 5 = .ok (.istore 5, 2) := by decide +kernel
theorem dX2_ofReply_7 : decode cX2_ofReply 7 = .ok (.iload 5, 2) := by decide +kernel
theorem dX2_ofReply_9 : decode cX2_ofReply 9 = .ok (.ifCond .lt 21, 3) := by decide +kernel
theorem dX2_ofReply_12 : decode cX2_ofReply 12 = .ok (.iload 4, 2) := by decide +kernel
theorem dX2_ofReply_14 : decode cX2_ofReply 14 = .ok (.lload_n 0, 1) := by decide +kernel
theorem dX2_ofReply_15 : decode cX2_ofReply 15 = .ok (.iload 5, 2) := by decide +kernel
theorem dX2_ofReply_17 : decode cX2_ofReply 17 = .ok (.lushr, 1) := by decide +kernel
theorem dX2_ofReply_18 : decode cX2_ofReply 18 = .ok (.l2i, 1) := by decide +kernel
theorem dX2_ofReply_19 : decode cX2_ofReply 19 = .ok (.invokestatic 7, 3) := by decide +kernel
theorem dX2_ofReply_22 : decode cX2_ofReply 22 = .ok (.istore 4, 2) := by decide +kernel
theorem dX2_ofReply_24 : decode cX2_ofReply 24 = .ok (.iinc 5 (-8), 3) := by decide +kernel
theorem dX2_ofReply_27 : decode cX2_ofReply 27 = .ok (.goto (-20), 3) := by decide +kernel
theorem dX2_ofReply_30 : decode cX2_ofReply 30 = .ok (.bipush 56, 2) := by decide +kernel
theorem dX2_ofReply_32 : decode cX2_ofReply 32 = .ok (.istore 5, 2) := by decide +kernel
theorem dX2_ofReply_34 : decode cX2_ofReply 34 = .ok (.iload 5, 2) := by decide +kernel
theorem dX2_ofReply_36 : decode cX2_ofReply 36 = .ok (.bipush 16, 2) := by decide +kernel
theorem dX2_ofReply_38 : decode cX2_ofReply 38 = .ok (.if_icmp .lt 21, 3) := by decide +kernel
theorem dX2_ofReply_41 : decode cX2_ofReply 41 = .ok (.iload 4, 2) := by decide +kernel
theorem dX2_ofReply_43 : decode cX2_ofReply 43 = .ok (.lload_n 2, 1) := by decide +kernel
theorem dX2_ofReply_44 : decode cX2_ofReply 44 = .ok (.iload 5, 2) := by decide +kernel
theorem dX2_ofReply_46 : decode cX2_ofReply 46 = .ok (.lushr, 1) := by decide +kernel
theorem dX2_ofReply_47 : decode cX2_ofReply 47 = .ok (.l2i, 1) := by decide +kernel
theorem dX2_ofReply_48 : decode cX2_ofReply 48 = .ok (.invokestatic 7, 3) := by decide +kernel
theorem dX2_ofReply_51 : decode cX2_ofReply 51 = .ok (.istore 4, 2) := by decide +kernel
theorem dX2_ofReply_53 : decode cX2_ofReply 53 = .ok (.iinc 5 (-8), 3) := by decide +kernel
theorem dX2_ofReply_56 : decode cX2_ofReply 56 = .ok (.goto (-22), 3) := by decide +kernel
theorem dX2_ofReply_59 : decode cX2_ofReply 59 = .ok (.iload 4, 2) := by decide +kernel
theorem dX2_ofReply_61 : decode cX2_ofReply 61 = .ok (.ireturn, 1) := by decide +kernel
set_option maxRecDepth 20000 in
theorem ggX2_ofRow_X2_withByte : GoodIn wsX2_ofRow wsX2_withByte := goodIn_r _ [11] (by decide +kernel) (by decide +kernel)
set_option maxRecDepth 20000 in
theorem gX2_ofRow_X2_withByte : GoodIn wsX2_ofRow (va_wsS RX2 7 yX2_withByte wsX2_withByte) := goodIn_app (goodIn_of _ (by decide +kernel)) ggX2_ofRow_X2_withByte
theorem dX2_ofRow_0 : decode cX2_ofRow 0 = .ok (.aload_n 0, 1) := by decide +kernel
theorem dX2_ofRow_1 : decode cX2_ofRow 1 = .ok (.arraylength, 1) := by decide +kernel
theorem dX2_ofRow_2 : decode cX2_ofRow 2 = .ok (.iload_n 1, 1) := by decide +kernel
theorem dX2_ofRow_3 : decode cX2_ofRow 3 = .ok (.iload_n 2, 1) := by decide +kernel
theorem dX2_ofRow_4 : decode cX2_ofRow 4 = .ok (.iadd, 1) := by decide +kernel
theorem dX2_ofRow_5 : decode cX2_ofRow 5 = .ok (.invokestatic 13, 3) := by decide +kernel
theorem dX2_ofRow_8 : decode cX2_ofRow 8 = .ok (.istore_n 3, 1) := by decide +kernel
theorem dX2_ofRow_9 : decode cX2_ofRow 9 = .ok (.iconst 0, 1) := by decide +kernel
theorem dX2_ofRow_10 : decode cX2_ofRow 10 = .ok (.istore 4, 2) := by decide +kernel
theorem dX2_ofRow_12 : decode cX2_ofRow 12 = .ok (.iconst 0, 1) := by decide +kernel
theorem dX2_ofRow_13 : decode cX2_ofRow 13 = .ok (.iload_n 1, 1) := by decide +kernel
theorem dX2_ofRow_14 : decode cX2_ofRow 14 = .ok (.invokestatic 18, 3) := by decide +kernel
theorem dX2_ofRow_17 : decode cX2_ofRow 17 = .ok (.istore 5, 2) := by decide +kernel
theorem dX2_ofRow_19 : decode cX2_ofRow 19 = .ok (.iload 5, 2) := by decide +kernel
theorem dX2_ofRow_21 : decode cX2_ofRow 21 = .ok (.iload_n 3, 1) := by decide +kernel
theorem dX2_ofRow_22 : decode cX2_ofRow 22 = .ok (.if_icmp .ge 20, 3) := by decide +kernel
theorem dX2_ofRow_25 : decode cX2_ofRow 25 = .ok (.iload 4, 2) := by decide +kernel
theorem dX2_ofRow_27 : decode cX2_ofRow 27 = .ok (.aload_n 0, 1) := by decide +kernel
theorem dX2_ofRow_28 : decode cX2_ofRow 28 = .ok (.iload 5, 2) := by decide +kernel
theorem dX2_ofRow_30 : decode cX2_ofRow 30 = .ok (.baload, 1) := by decide +kernel
theorem dX2_ofRow_31 : decode cX2_ofRow 31 = .ok (.invokestatic 7, 3) := by decide +kernel
theorem dX2_ofRow_34 : decode cX2_ofRow 34 = .ok (.istore 4, 2) := by decide +kernel
theorem dX2_ofRow_36 : decode cX2_ofRow 36 = .ok (.iinc 5 1, 3) := by decide +kernel
theorem dX2_ofRow_39 : decode cX2_ofRow 39 = .ok (.goto (-20), 3) := by decide +kernel
theorem dX2_ofRow_42 : decode cX2_ofRow 42 = .ok (.iload 4, 2) := by decide +kernel
theorem dX2_ofRow_44 : decode cX2_ofRow 44 = .ok (.ireturn, 1) := by decide +kernel
theorem dX2_withByte_0 : decode cX2_withByte 0 = .ok (.iload_n 0, 1) := by decide +kernel
theorem dX2_withByte_1 : decode cX2_withByte 1 = .ok (.istore_n 2, 1) := by decide +kernel
theorem dX2_withByte_2 : decode cX2_withByte 2 = .ok (.bipush 7, 2) := by decide +kernel
theorem dX2_withByte_4 : decode cX2_withByte 4 = .ok (.istore_n 3, 1) := by decide +kernel
theorem dX2_withByte_5 : decode cX2_withByte 5 = .ok (.iload_n 3, 1) := by decide +kernel
theorem dX2_withByte_6 : decode cX2_withByte 6 = .ok (.ifCond .lt 49, 3) := by decide +kernel
theorem dX2_withByte_9 : decode cX2_withByte 9 = .ok (.iload_n 2, 1) := by decide +kernel
theorem dX2_withByte_10 : decode cX2_withByte 10 = .ok (.bipush 14, 2) := by decide +kernel
theorem dX2_withByte_12 : decode cX2_withByte 12 = .ok (.iushr, 1) := by decide +kernel
theorem dX2_withByte_13 : decode cX2_withByte 13 = .ok (.iconst 1, 1) := by decide +kernel
theorem dX2_withByte_14 : decode cX2_withByte 14 = .ok (.iand, 1) := by decide +kernel
theorem dX2_withByte_15 : decode cX2_withByte 15 = .ok (.iload_n 1, 1) := by decide +kernel
theorem dX2_withByte_16 : decode cX2_withByte 16 = .ok (.iload_n 3, 1) := by decide +kernel
theorem dX2_withByte_17 : decode cX2_withByte 17 = .ok (.iushr, 1) := by decide +kernel
theorem dX2_withByte_18 : decode cX2_withByte 18 = .ok (.iconst 1, 1) := by decide +kernel
theorem dX2_withByte_19 : decode cX2_withByte 19 = .ok (.iand, 1) := by decide +kernel
theorem dX2_withByte_20 : decode cX2_withByte 20 = .ok (.if_icmp .eq 7, 3) := by decide +kernel
theorem dX2_withByte_23 : decode cX2_withByte 23 = .ok (.iconst 1, 1) := by decide +kernel
theorem dX2_withByte_24 : decode cX2_withByte 24 = .ok (.goto 4, 3) := by decide +kernel
theorem dX2_withByte_27 : decode cX2_withByte 27 = .ok (.iconst 0, 1) := by decide +kernel
theorem dX2_withByte_28 : decode cX2_withByte 28 = .ok (.istore 4, 2) := by decide +kernel
theorem dX2_withByte_30 : decode cX2_withByte 30 = .ok (.iload_n 2, 1) := by decide +kernel
theorem dX2_withByte_31 : decode cX2_withByte 31 = .ok (.iconst 1, 1) := by decide +kernel
theorem dX2_withByte_32 : decode cX2_withByte 32 = .ok (.ishl, 1) := by decide +kernel
theorem dX2_withByte_33 : decode cX2_withByte 33 = .ok (.sipush 32767, 3) := by decide +kernel
theorem dX2_withByte_36 : decode cX2_withByte 36 = .ok (.iand, 1) := by decide +kernel
theorem dX2_withByte_37 : decode cX2_withByte 37 = .ok (.istore_n 2, 1) := by decide +kernel
theorem dX2_withByte_38 : decode cX2_withByte 38 = .ok (.iload 4, 2) := by decide +kernel
theorem dX2_withByte_40 : decode cX2_withByte 40 = .ok (.ifCond .eq 9, 3) := by decide +kernel
theorem dX2_withByte_43 : decode cX2_withByte 43 = .ok (.iload_n 2, 1) := by decide +kernel
theorem dX2_withByte_44 : decode cX2_withByte 44 = .ok (.sipush 17817, 3) := by decide +kernel
theorem dX2_withByte_47 : decode cX2_withByte 47 = .ok (.ixor, 1) := by decide +kernel
theorem dX2_withByte_48 : decode cX2_withByte 48 = .ok (.istore_n 2, 1) := by decide +kernel
theorem dX2_withByte_49 : decode cX2_withByte 49 = .ok (.iinc 3 (-1), 3) := by decide +kernel
theorem dX2_withByte_52 : decode cX2_withByte 52 = .ok (.goto (-47), 3) := by decide +kernel
theorem dX2_withByte_55 : decode cX2_withByte 55 = .ok (.iload_n 2, 1) := by decide +kernel
theorem dX2_withByte_56 : decode cX2_withByte 56 = .ok (.ireturn, 1) := by decide +kernel
theorem dX3_init_0 : decode cX3_init 0 = .ok (.aload_n 0, 1) := by decide +kernel
theorem dX3_init_1 : decode cX3_init 1 = .ok (.invokespecial 3, 3) := by decide +kernel
theorem dX3_init_4 : decode cX3_init 4 = .ok (.aload_n 0, 1) := by decide +kernel
theorem dX3_init_5 : decode cX3_init 5 = .ok (.bipush 6, 2) := by decide +kernel
theorem dX3_init_7 : decode cX3_init 7 = .ok (.newarray .int, 2) := by decide +kernel
theorem dX3_init_9 : decode cX3_init 9 = .ok (.putfield 9, 3) := by decide +kernel
theorem dX3_init_12 : decode cX3_init 12 = .ok (.aload_n 0, 1) := by decide +kernel
theorem dX3_init_13 : decode cX3_init 13 = .ok (.bipush 6, 2) := by decide +kernel
theorem dX3_init_15 : decode cX3_init 15 = .ok (.newarray .int, 2) := by decide +kernel
theorem dX3_init_17 : decode cX3_init 17 = .ok (.putfield 15, 3) := by decide +kernel
theorem dX3_init_20 : decode cX3_init 20 = .ok (.aload_n 0, 1) := by decide +kernel
theorem dX3_init_21 : decode cX3_init 21 = .ok (.bipush 8, 2) := by decide +kernel
theorem dX3_init_23 : decode cX3_init 23 = .ok (.newarray .double, 2) := by decide +kernel
theorem dX3_init_25 : decode cX3_init 25 = .ok (.putfield 18, 3) := by decide +kernel
theorem dX3_init_28 : decode cX3_init 28 = .ok (.return_, 1) := by decide +kernel
theorem dX3_beginAnew_0 : decode cX3_beginAnew 0 = .ok (.aload_n 0, 1) := by decide +kernel
theorem dX3_beginAnew_1 : decode cX3_beginAnew 1 = .ok (.iconst 0, 1) := by decide +kernel
theorem dX3_beginAnew_2 : decode cX3_beginAnew 2 = .ok (.putfield 22, 3) := by decide +kernel
theorem dX3_beginAnew_5 : decode cX3_beginAnew 5 = .ok (.aload_n 0, 1) := by decide +kernel
theorem dX3_beginAnew_6 : decode cX3_beginAnew 6 = .ok (.iconst 0, 1) := by decide +kernel
theorem dX3_beginAnew_7 : decode cX3_beginAnew 7 = .ok (.putfield 26, 3) := by decide +kernel
theorem dX3_beginAnew_10 : decode cX3_beginAnew 10 = .ok (.aload_n 0, 1) := by decide +kernel
theorem dX3_beginAnew_11 : decode cX3_beginAnew 11 = .ok (.iconst 0, 1) := by decide +kernel
theorem dX3_beginAnew_12 : decode cX3_beginAnew 12 = .ok (.putfield 29, 3) := by decide +kernel
theorem dX3_beginAnew_15 : decode cX3_beginAnew 15 = .ok (.aload_n 0, 1) := by decide +kernel
theorem dX3_beginAnew_16 : decode cX3_beginAnew 16 = .ok (.ldc2_w 32, 3) := by decide +kernel
theorem dX3_beginAnew_19 : decode cX3_beginAnew 19 = .ok (.putfield 34, 3) := by decide +kernel
theorem dX3_beginAnew_22 : decode cX3_beginAnew 22 = .ok (.aload_n 0, 1) := by decide +kernel
theorem dX3_beginAnew_23 : decode cX3_beginAnew 23 = .ok (.iconst 0, 1) := by decide +kernel
theorem dX3_beginAnew_24 : decode cX3_beginAnew 24 = .ok (.putfield 38, 3) := by decide +kernel
theorem dX3_beginAnew_27 : decode cX3_beginAnew 27 = .ok (.return_, 1) := by decide +kernel
set_option maxRecDepth 20000 in
theorem ggX3_take_X3_numberIn : GoodIn wsX3_take wsX3_numberIn := goodIn_r _ [11, 4] (by decide +kernel) (by decide +kernel)
set_option maxRecDepth 20000 in
theorem gX3_take_X3_numberIn : GoodIn wsX3_take (va_wsS RX3 41 yX3_numberIn wsX3_numberIn) := goodIn_app (goodIn_of _ (by decide +kernel)) ggX3_take_X3_numberIn
set_option maxRecDepth 20000 in
theorem ggX3_take_J9_floorMod_7cf53 : GoodIn wsX3_take wsJ9_floorMod_7cf53 := goodIn_r _ [15] (by decide +kernel) (by decide +kernel)
set_option maxRecDepth 20000 in
theorem gX3_take_J9_floorMod_7cf53 : GoodIn wsX3_take (va_wsS RX3 47 yJ9_floorMod_7cf53 wsJ9_floorMod_7cf53) := goodIn_app (goodIn_of _ (by decide +kernel)) ggX3_take_J9_floorMod_7cf53
theorem dX3_take_0 : decode cX3_take 0 = .ok (.iconst 0, 1) := by decide +kernel
theorem dX3_take_1 : decode cX3_take 1 = .ok (.istore 7, 2) := by decide +kernel
theorem dX3_take_3 : decode cX3_take 3 = .ok (.iload 7, 2) := by decide +kernel
theorem dX3_take_5 : decode cX3_take 5 = .ok (.bipush 6, 2) := by decide +kernel
theorem dX3_take_7 : decode cX3_take 7 = .ok (.if_icmp .ge 78, 3) := by decide +kernel
theorem dX3_take_10 : decode cX3_take 10 = .ok (.lload_n 1, 1) := by decide +kernel
theorem dX3_take_11 : decode cX3_take 11 = .ok (.lload_n 3, 1) := by decide +kernel
theorem dX3_take_12 : decode cX3_take 12 = .ok (.iload 7, 2) := by decide +kernel
theorem dX3_take_14 : decode cX3_take 14 = .ok (.invokestatic 41, 3) := by decide +kernel
theorem dX3_take_17 : decode cX3_take 17 = .ok (.istore 8, 2) := by decide +kernel
theorem dX3_take_19 : decode cX3_take 19 = .ok (.aload_n 0, 1) := by decide +kernel
theorem dX3_take_20 : decode cX3_take 20 = .ok (.getfield 26, 3) := by decide +kernel
theorem dX3_take_23 : decode cX3_take 23 = .ok (.ifCond .le 19, 3) := by decide +kernel
theorem dX3_take_26 : decode cX3_take 26 = .ok (.iload 8, 2) := by decide +kernel
theorem dX3_take_28 : decode cX3_take 28 = .ok (.aload_n 0, 1) := by decide +kernel
theorem dX3_take_29 : decode cX3_take 29 = .ok (.getfield 9, 3) := by decide +kernel
theorem dX3_take_32 : decode cX3_take 32 = .ok (.iload 7, 2) := by decide +kernel
theorem dX3_take_34 : decode cX3_take 34 = .ok (.iaload, 1) := by decide +kernel
theorem dX3_take_35 : decode cX3_take 35 = .ok (.if_icmp .ne 7, 3) := by decide +kernel
theorem dX3_take_38 : decode cX3_take 38 = .ok (.iconst 1, 1) := by decide +kernel
theorem dX3_take_39 : decode cX3_take 39 = .ok (.goto 4, 3) := by decide +kernel
theorem dX3_take_42 : decode cX3_take 42 = .ok (.iconst 0, 1) := by decide +kernel
theorem dX3_take_43 : decode cX3_take 43 = .ok (.istore 9, 2) := by decide +kernel
theorem dX3_take_45 : decode cX3_take 45 = .ok (.aload_n 0, 1) := by decide +kernel
theorem dX3_take_46 : decode cX3_take 46 = .ok (.getfield 15, 3) := by decide +kernel
theorem dX3_take_49 : decode cX3_take 49 = .ok (.iload 7, 2) := by decide +kernel
theorem dX3_take_51 : decode cX3_take 51 = .ok (.iload 9, 2) := by decide +kernel
theorem dX3_take_53 : decode cX3_take 53 = .ok (.ifCond .eq 15, 3) := by decide +kernel
theorem dX3_take_56 : decode cX3_take 56 = .ok (.aload_n 0, 1) := by decide +kernel
theorem dX3_take_57 : decode cX3_take 57 = .ok (.getfield 15, 3) := by decide +kernel
theorem dX3_take_60 : decode cX3_take 60 = .ok (.iload 7, 2) := by decide +kernel
theorem dX3_take_62 : decode cX3_take 62 = .ok (.iaload, 1) := by decide +kernel
theorem dX3_take_63 : decode cX3_take 63 = .ok (.iconst 1, 1) := by decide +kernel
theorem dX3_take_64 : decode cX3_take 64 = .ok (.iadd, 1) := by decide +kernel
theorem dX3_take_65 : decode cX3_take 65 = .ok (.goto 4, 3) := by decide +kernel
theorem dX3_take_68 : decode cX3_take 68 = .ok (.iconst 1, 1) := by decide +kernel
theorem dX3_take_69 : decode cX3_take 69 = .ok (.iastore, 1) := by decide +kernel
theorem dX3_take_70 : decode cX3_take 70 = .ok (.aload_n 0, 1) := by decide +kernel
theorem dX3_take_71 : decode cX3_take 71 = .ok (.getfield 9, 3) := by decide +kernel
theorem dX3_take_74 : decode cX3_take 74 = .ok (.iload 7, 2) := by decide +kernel
theorem dX3_take_76 : decode cX3_take 76 = .ok (.iload 8, 2) := by decide +kernel
theorem dX3_take_78 : decode cX3_take 78 = .ok (.iastore, 1) := by decide +kernel
theorem dX3_take_79 : decode cX3_take 79 = .ok (.iinc 7 1, 3) := by decide +kernel
theorem dX3_take_82 : decode cX3_take 82 = .ok (.goto (-79), 3) := by decide +kernel
theorem dX3_take_85 : decode cX3_take 85 = .ok (.aload_n 0, 1) := by decide +kernel
theorem dX3_take_86 : decode cX3_take 86 = .ok (.lload_n 3, 1) := by decide +kernel
theorem dX3_take_87 : decode cX3_take 87 = .ok (.bipush 16, 2) := by decide +kernel
theorem dX3_take_89 : decode cX3_take 89 = .ok (.lushr, 1) := by decide +kernel
theorem dX3_take_90 : decode cX3_take 90 = .ok (.ldc2_w 45, 3) := by decide +kernel
theorem dX3_take_93 : decode cX3_take 93 = .ok (.land, 1) := by decide +kernel
theorem dX3_take_94 : decode cX3_take 94 = .ok (.l2i, 1) := by decide +kernel
theorem dX3_take_95 : decode cX3_take 95 = .ok (.putfield 22, 3) := by decide +kernel
theorem dX3_take_98 : decode cX3_take 98 = .ok (.aload_n 0, 1) := by decide +kernel
theorem dX3_take_99 : decode cX3_take 99 = .ok (.getfield 18, 3) := by decide +kernel
theorem dX3_take_102 : decode cX3_take 102 = .ok (.aload_n 0, 1) := by decide +kernel
theorem dX3_take_103 : decode cX3_take 103 = .ok (.getfield 26, 3) := by decide +kernel
theorem dX3_take_106 : decode cX3_take 106 = .ok (.bipush 8, 2) := by decide +kernel
theorem dX3_take_108 : decode cX3_take 108 = .ok (.invokestatic 47, 3) := by decide +kernel
theorem dX3_take_111 : decode cX3_take 111 = .ok (.dload 5, 2) := by decide +kernel
theorem dX3_take_113 : decode cX3_take 113 = .ok (.dastore, 1) := by decide +kernel
theorem dX3_take_114 : decode cX3_take 114 = .ok (.aload_n 0, 1) := by decide +kernel
theorem dX3_take_115 : decode cX3_take 115 = .ok (.dup, 1) := by decide +kernel
theorem dX3_take_116 : decode cX3_take 116 = .ok (.getfield 26, 3) := by decide +kernel
theorem dX3_take_119 : decode cX3_take 119 = .ok (.iconst 1, 1) := by decide +kernel
theorem dX3_take_120 : decode cX3_take 120 = .ok (.iadd, 1) := by decide +kernel
theorem dX3_take_121 : decode cX3_take 121 = .ok (.putfield 26, 3) := by decide +kernel
theorem dX3_take_124 : decode cX3_take 124 = .ok (.aload_n 0, 1) := by decide +kernel
theorem dX3_take_125 : decode cX3_take 125 = .ok (.iconst 0, 1) := by decide +kernel
theorem dX3_take_126 : decode cX3_take 126 = .ok (.putfield 29, 3) := by decide +kernel
theorem dX3_take_129 : decode cX3_take 129 = .ok (.return_, 1) := by decide +kernel
theorem dX3_numberIn_0 : decode cX3_numberIn 0 = .ok (.iload 4, 2) := by decide +kernel
theorem dX3_numberIn_2 : decode cX3_numberIn 2 = .ok (.iconst 4, 1) := by decide +kernel
theorem dX3_numberIn_3 : decode cX3_numberIn 3 = .ok (.if_icmp .ge 16, 3) := by decide +kernel
theorem dX3_numberIn_6 : decode cX3_numberIn 6 = .ok (.lload_n 0, 1) := by decide +kernel
theorem dX3_numberIn_7 : decode cX3_numberIn 7 = .ok (.bipush 48, 2) := by decide +kernel
theorem dX3_numberIn_9 : decode cX3_numberIn 9 = .ok (.bipush 16, 2) := by decide +kernel
theorem dX3_numberIn_11 : decode cX3_numberIn 11 = .ok (.iload 4, 2) := by decide +kernel
theorem dX3_numberIn_13 : decode cX3_numberIn 13 = .ok (.imul, 1) := by decide +kernel
theorem dX3_numberIn_14 : decode cX3_numberIn 14 = .ok (.isub, 1) := by decide +kernel
theorem dX3_numberIn_15 : decode cX3_numberIn 15 = .ok (.lushr, 1) := by decide +kernel
theorem dX3_numberIn_16 : decode cX3_numberIn 16 = .ok (.goto 13, 3) := by decide +kernel
theorem dX3_numberIn_19 : decode cX3_numberIn 19 = .ok (.lload_n 2, 1) := by decide +kernel
theorem dX3_numberIn_20 : decode cX3_numberIn 20 = .ok (.bipush 112, 2) := by decide +kernel
theorem dX3_numberIn_22 : decode cX3_numberIn 22 = .ok (.bipush 16, 2) := by decide +kernel
theorem dX3_numberIn_24 : decode cX3_numberIn 24 = .ok (.iload 4, 2) := by decide +kernel
theorem dX3_numberIn_26 : decode cX3_numberIn 26 = .ok (.imul, 1) := by decide +kernel
theorem dX3_numberIn_27 : decode cX3_numberIn 27 = .ok (.isub, 1) := by decide +kernel
theorem dX3_numberIn_28 : decode cX3_numberIn 28 = .ok (.lushr, 1) := by decide +kernel
theorem dX3_numberIn_29 : decode cX3_numberIn 29 = .ok (.lstore 5, 2) := by decide +kernel
theorem dX3_numberIn_31 : decode cX3_numberIn 31 = .ok (.lload 5, 2) := by decide +kernel
theorem dX3_numberIn_33 : decode cX3_numberIn 33 = .ok (.ldc2_w 45, 3) := by decide +kernel
theorem dX3_numberIn_36 : decode cX3_numberIn 36 = .ok (.land, 1) := by decide +kernel
theorem dX3_numberIn_37 : decode cX3_numberIn 37 = .ok (.l2i, 1) := by decide +kernel
theorem dX3_numberIn_38 : decode cX3_numberIn 38 = .ok (.ireturn, 1) := by decide +kernel
theorem dX3_isStale_0 : decode cX3_isStale 0 = .ok (.aload_n 0, 1) := by decide +kernel
theorem dX3_isStale_1 : decode cX3_isStale 1 = .ok (.getfield 26, 3) := by decide +kernel
theorem dX3_isStale_4 : decode cX3_isStale 4 = .ok (.ifCond .eq 12, 3) := by decide +kernel
theorem dX3_isStale_7 : decode cX3_isStale 7 = .ok (.aload_n 0, 1) := by decide +kernel
theorem dX3_isStale_8 : decode cX3_isStale 8 = .ok (.getfield 29, 3) := by decide +kernel
theorem dX3_isStale_11 : decode cX3_isStale 11 = .ok (.bipush 10, 2) := by decide +kernel
theorem dX3_isStale_13 : decode cX3_isStale 13 = .ok (.if_icmp .le 7, 3) := by decide +kernel
theorem dX3_isStale_16 : decode cX3_isStale 16 = .ok (.iconst 1, 1) := by decide +kernel
theorem dX3_isStale_17 : decode cX3_isStale 17 = .ok (.goto 4, 3) := by decide +kernel
theorem dX3_isStale_20 : decode cX3_isStale 20 = .ok (.iconst 0, 1) := by decide +kernel
theorem dX3_isStale_21 : decode cX3_isStale 21 = .ok (.ireturn, 1) := by decide +kernel
set_option maxRecDepth 20000 in
theorem ggX3_isValid_X3_isStale : GoodIn wsX3_isValid wsX3_isStale := goodIn_r _ [7, 8, 9, 21, 22, 23, 24, 25, 26, 27, 28] (by decide +kernel) (by decide +kernel)
set_option maxRecDepth 20000 in
theorem gX3_isValid_X3_isStale : GoodIn wsX3_isValid (wsV RX3 53 RX3 yX3_isStale wsX3_isStale) := goodIn_app (goodIn_of _ (by decide +kernel)) ggX3_isValid_X3_isStale
set_option maxRecDepth 20000 in
theorem ggX3_isValid_X3_isStuck : GoodIn wsX3_isValid wsX3_isStuck := goodIn_r _ [13, 14, 15, 16, 17, 6, 18, 19, 20, 21, 22, 23, 24, 25, 26, 27, 28] (by decide +kernel) (by decide +kernel)
set_option maxRecDepth 20000 in
theorem gX3_isValid_X3_isStuck : GoodIn wsX3_isValid (wsV RX3 57 RX3 yX3_isStuck wsX3_isStuck) := goodIn_app (goodIn_of _ (by decide +kernel)) ggX3_isValid_X3_isStuck
theorem dX3_isValid_0 : decode cX3_isValid 0 = .ok (.aload_n 0, 1) := by decide +kernel
theorem dX3_isValid_1 : decode cX3_isValid 1 = .ok (.invokevirtual 53, 3) := by decide +kernel
theorem dX3_isValid_4 : decode cX3_isValid 4 = .ok (.ifCond .ne 27, 3) := by decide +kernel
theorem dX3_isValid_7 : decode cX3_isValid 7 = .ok (.aload_n 0, 1) := by decide +kernel
theorem dX3_isValid_8 : decode cX3_isValid 8 = .ok (.getfield 9, 3) := by decide +kernel
theorem dX3_isValid_11 : decode cX3_isValid 11 = .ok (.iload_n 1, 1) := by decide +kernel
theorem dX3_isValid_12 : decode cX3_isValid 12 = .ok (.iaload, 1) := by decide +kernel
theorem dX3_isValid_13 : decode cX3_isValid 13 = .ok (.sipush 500, 3) := by decide +kernel
theorem dX3_isValid_16 : decode cX3_isValid 16 = .ok (.if_icmp .lt 15, 3) := by decide +kernel
theorem dX3_isValid_19 : decode cX3_isValid 19 = .ok (.aload_n 0, 1) := by decide +kernel
theorem dX3_isValid_20 : decode cX3_isValid 20 = .ok (.getfield 9, 3) := by decide +kernel
theorem dX3_isValid_23 : decode cX3_isValid 23 = .ok (.iload_n 1, 1) := by decide +kernel
theorem dX3_isValid_24 : decode cX3_isValid 24 = .ok (.iaload, 1) := by decide +kernel
theorem dX3_isValid_25 : decode cX3_isValid 25 = .ok (.sipush 4999, 3) := by decide +kernel
theorem dX3_isValid_28 : decode cX3_isValid 28 = .ok (.if_icmp .le 5, 3) := by decide +kernel
theorem dX3_isValid_31 : decode cX3_isValid 31 = .ok (.iconst 0, 1) := by decide +kernel
theorem dX3_isValid_32 : decode cX3_isValid 32 = .ok (.ireturn, 1) := by decide +kernel
theorem dX3_isValid_33 : decode cX3_isValid 33 = .ok (.aload_n 0, 1) := by decide +kernel
theorem dX3_isValid_34 : decode cX3_isValid 34 = .ok (.getfield 22, 3) := by decide +kernel
theorem dX3_isValid_37 : decode cX3_isValid 37 = .ok (.iload_n 1, 1) := by decide +kernel
theorem dX3_isValid_38 : decode cX3_isValid 38 = .ok (.iushr, 1) := by decide +kernel
theorem dX3_isValid_39 : decode cX3_isValid 39 = .ok (.iconst 1, 1) := by decide +kernel
theorem dX3_isValid_40 : decode cX3_isValid 40 = .ok (.iand, 1) := by decide +kernel
theorem dX3_isValid_41 : decode cX3_isValid 41 = .ok (.ifCond .ne 15, 3) := by decide +kernel
theorem dX3_isValid_44 : decode cX3_isValid 44 = .ok (.aload_n 0, 1) := by decide +kernel
theorem dX3_isValid_45 : decode cX3_isValid 45 = .ok (.iload_n 1, 1) := by decide +kernel
theorem dX3_isValid_46 : decode cX3_isValid 46 = .ok (.invokevirtual 57, 3) := by decide +kernel
theorem dX3_isValid_49 : decode cX3_isValid 49 = .ok (.ifCond .ne 7, 3) := by decide +kernel
theorem dX3_isValid_52 : decode cX3_isValid 52 = .ok (.iconst 1, 1) := by decide +kernel
theorem dX3_isValid_53 : decode cX3_isValid 53 = .ok (.goto 4, 3) := by decide +kernel
theorem dX3_isValid_56 : decode cX3_isValid 56 = .ok (.iconst 0, 1) := by decide +kernel
theorem dX3_isValid_57 : decode cX3_isValid 57 = .ok (.ireturn, 1) := by decide +kernel
set_option maxRecDepth 20000 in
theorem ggX3_isStuck_X3_currentsSwing : GoodIn wsX3_isStuck wsX3_currentsSwing := goodIn_r _ [6, 7, 8, 9, 10, 11, 12, 13, 14, 15, 16] (by decide +kernel) (by decide +kernel)
set_option maxRecDepth 20000 in
theorem gX3_isStuck_X3_currentsSwing : GoodIn wsX3_isStuck (wsV RX3 61 RX3 yX3_currentsSwing wsX3_currentsSwing) := goodIn_app (goodIn_of _ (by decide +kernel)) ggX3_isStuck_X3_currentsSwing
theorem dX3_isStuck_0 : decode cX3_isStuck 0 = .ok (.aload_n 0, 1) := by decide +kernel
theorem dX3_isStuck_1 : decode cX3_isStuck 1 = .ok (.getfield 15, 3) := by decide +kernel
theorem dX3_isStuck_4 : decode cX3_isStuck 4 = .ok (.iload_n 1, 1) := by decide +kernel
theorem dX3_isStuck_5 : decode cX3_isStuck 5 = .ok (.iaload, 1) := by decide +kernel
theorem dX3_isStuck_6 : decode cX3_isStuck 6 = .ok (.bipush 8, 2) := by decide +kernel
theorem dX3_isStuck_8 : decode cX3_isStuck 8 = .ok (.if_icmp .lt 14, 3) := by decide +kernel
theorem dX3_isStuck_11 : decode cX3_isStuck 11 = .ok (.aload_n 0, 1) := by decide +kernel
theorem dX3_isStuck_12 : decode cX3_isStuck 12 = .ok (.invokevirtual 61, 3) := by decide +kernel
theorem dX3_isStuck_15 : decode cX3_isStuck 15 = .ok (.ifCond .eq 7, 3) := by decide +kernel
theorem dX3_isStuck_18 : decode cX3_isStuck 18 = .ok (.iconst 1, 1) := by decide +kernel
theorem dX3_isStuck_19 : decode cX3_isStuck 19 = .ok (.goto 4, 3) := by decide +kernel
theorem dX3_isStuck_22 : decode cX3_isStuck 22 = .ok (.iconst 0, 1) := by decide +kernel
theorem dX3_isStuck_23 : decode cX3_isStuck 23 = .ok (.ireturn, 1) := by decide +kernel
theorem dX3_currentsSwing_0 : decode cX3_currentsSwing 0 = .ok (.aload_n 0, 1) := by decide +kernel
theorem dX3_currentsSwing_1 : decode cX3_currentsSwing 1 = .ok (.getfield 18, 3) := by decide +kernel
theorem dX3_currentsSwing_4 : decode cX3_currentsSwing 4 = .ok (.iconst 0, 1) := by decide +kernel
theorem dX3_currentsSwing_5 : decode cX3_currentsSwing 5 = .ok (.daload, 1) := by decide +kernel
theorem dX3_currentsSwing_6 : decode cX3_currentsSwing 6 = .ok (.dstore_n 1, 1) := by decide +kernel
theorem dX3_currentsSwing_7 : decode cX3_currentsSwing 7 = .ok (.aload_n 0, 1) := by decide +kernel
theorem dX3_currentsSwing_8 : decode cX3_currentsSwing 8 = .ok (.getfield 18, 3) := by decide +kernel
theorem dX3_currentsSwing_11 : decode cX3_currentsSwing 11 = .ok (.iconst 0, 1) := by decide +kernel
theorem dX3_currentsSwing_12 : decode cX3_currentsSwing 12 = .ok (.daload, 1) := by decide +kernel
theorem dX3_currentsSwing_13 : decode cX3_currentsSwing 13 = .ok (.dstore_n 3, 1) := by decide +kernel
theorem dX3_currentsSwing_14 : decode cX3_currentsSwing 14 = .ok (.aload_n 0, 1) := by decide +kernel
theorem dX3_currentsSwing_15 : decode cX3_currentsSwing 15 = .ok (.getfield 18, 3) := by decide +kernel
theorem dX3_currentsSwing_18 : decode cX3_currentsSwing 18 = .ok (.astore 5, 2) := by decide +kernel
theorem dX3_currentsSwing_20 : decode cX3_currentsSwing 20 = .ok (.aload 5, 2) := by decide +kernel
theorem dX3_currentsSwing_22 : decode cX3_currentsSwing 22 = .ok (.arraylength, 1) := by decide +kernel
theorem dX3_currentsSwing_23 : decode cX3_currentsSwing 23 = .ok (.istore 6, 2) := by decide +kernel
theorem dX3_currentsSwing_25 : decode cX3_currentsSwing 25 = .ok (.iconst 0, 1) := by decide +kernel
theorem dX3_currentsSwing_26 : decode cX3_currentsSwing 26 = .ok (.istore 7, 2) := by decide +kernel
theorem dX3_currentsSwing_28 : decode cX3_currentsSwing 28 = .ok (.iload 7, 2) := by decide +kernel
theorem dX3_currentsSwing_30 : decode cX3_currentsSwing 30 = .ok (.iload 6, 2) := by decide +kernel
theorem dX3_currentsSwing_32 : decode cX3_currentsSwing 32 = .ok (.if_icmp .ge 44, 3) := by decide +kernel
theorem dX3_currentsSwing_35 : decode cX3_currentsSwing 35 = .ok (.aload 5, 2) := by decide +kernel
theorem dX3_currentsSwing_37 : decode cX3_currentsSwing 37 = .ok (.iload 7, 2) := by decide +kernel
theorem dX3_currentsSwing_39 : decode cX3_currentsSwing 39 = .ok (.daload, 1) := by decide +kernel
theorem dX3_currentsSwing_40 : decode cX3_currentsSwing 40 = .ok (.dstore 8, 2) := by decide +kernel
theorem dX3_currentsSwing_42 : decode cX3_currentsSwing 42 = .ok (.dload 8, 2) := by decide +kernel
theorem dX3_currentsSwing_44 : decode cX3_currentsSwing 44 = .ok (.dload_n 1, 1) := by decide +kernel
theorem dX3_currentsSwing_45 : decode cX3_currentsSwing 45 = .ok (.dcmp .g, 1) := by decide +kernel
theorem dX3_currentsSwing_46 : decode cX3_currentsSwing 46 = .ok (.ifCond .ge 8, 3) := by decide +kernel
theorem dX3_currentsSwing_49 : decode cX3_currentsSwing 49 = .ok (.dload 8, 2) := by decide +kernel
theorem dX3_currentsSwing_51 : decode cX3_currentsSwing 51 = .ok (.goto 4, 3) := by decide +kernel
theorem dX3_currentsSwing_54 : decode cX3_currentsSwing 54 = .ok (.dload_n 1, 1) := by decide +kernel
theorem dX3_currentsSwing_55 : decode cX3_currentsSwing 55 = .ok (.dstore_n 1, 1) := by decide +kernel
theorem dX3_currentsSwing_56 : decode cX3_currentsSwing 56 = .ok (.dload 8, 2) := by decide +kernel
theorem dX3_currentsSwing_58 : decode cX3_currentsSwing 58 = .ok (.dload_n 3, 1) := by decide +kernel
theorem dX3_currentsSwing_59 : decode cX3_currentsSwing 59 = .ok (.dcmp .l, 1) := by decide +kernel
theorem dX3_currentsSwing_60 : decode cX3_currentsSwing 60 = .ok (.ifCond .le 8, 3) := by decide +kernel
theorem dX3_currentsSwing_63 : decode cX3_currentsSwing 63 = .ok (.dload 8, 2) := by decide +kernel
theorem dX3_currentsSwing_65 : decode cX3_currentsSwing 65 = .ok (.goto 4, 3) := by decide +kernel
theorem dX3_currentsSwing_68 : decode cX3_currentsSwing 68 = .ok (.dload_n 3, 1) := by decide +kernel
theorem dX3_currentsSwing_69 : decode cX3_currentsSwing 69 = .ok (.dstore_n 3, 1) := by decide +kernel
theorem dX3_currentsSwing_70 : decode cX3_currentsSwing 70 = .ok (.iinc 7 1, 3) := by decide +kernel
theorem dX3_currentsSwing_73 : decode cX3_currentsSwing 73 = .ok (.goto (-45), 3) := by decide +kernel
theorem dX3_currentsSwing_76 : decode cX3_currentsSwing 76 = .ok (.dload_n 3, 1) := by decide +kernel
theorem dX3_currentsSwing_77 : decode cX3_currentsSwing 77 = .ok (.dload_n 1, 1) := by decide +kernel
theorem dX3_currentsSwing_78 : decode cX3_currentsSwing 78 = .ok (.dsub, 1) := by decide +kernel
theorem dX3_currentsSwing_79 : decode cX3_currentsSwing 79 = .ok (.ldc2_w 64, 3) := by decide +kernel
theorem dX3_currentsSwing_82 : decode cX3_currentsSwing 82 = .ok (.dcmp .l, 1) := by decide +kernel
theorem dX3_currentsSwing_83 : decode cX3_currentsSwing 83 = .ok (.ifCond .le 7, 3) := by decide +kernel
theorem dX3_currentsSwing_86 : decode cX3_currentsSwing 86 = .ok (.iconst 1, 1) := by decide +kernel
theorem dX3_currentsSwing_87 : decode cX3_currentsSwing 87 = .ok (.goto 4, 3) := by decide +kernel
theorem dX3_currentsSwing_90 : decode cX3_currentsSwing 90 = .ok (.iconst 0, 1) := by decide +kernel
theorem dX3_currentsSwing_91 : decode cX3_currentsSwing 91 = .ok (.ireturn, 1) := by decide +kernel
set_option maxRecDepth 20000 in
theorem ggX3_cellsToBleed_X3_isValid : GoodIn wsX3_cellsToBleed wsX3_isValid := goodIn_r _ [6, 1, 7, 8, 9, 10, 5, 11, 12, 13, 14, 15, 16, 17, 18, 19, 20, 21, 22, 23, 24, 25, 26, 27, 28, 29, 30, 31, 32] (by decide +kernel) (by decide +kernel)
set_option maxRecDepth 20000 in
theorem gX3_cellsToBleed_X3_isValid : GoodIn wsX3_cellsToBleed (wsV RX3 66 RX3 yX3_isValid wsX3_isValid) := goodIn_app (goodIn_of _ (by decide +kernel)) ggX3_cellsToBleed_X3_isValid
theorem dX3_cellsToBleed_0 : decode cX3_cellsToBleed 0 = .ok (.iconst 0, 1) := by decide +kernel
theorem dX3_cellsToBleed_1 : decode cX3_cellsToBleed 1 = .ok (.istore_n 3, 1) := by decide +kernel
theorem dX3_cellsToBleed_2 : decode cX3_cellsToBleed 2 = .ok (.iconst 0, 1) := by decide +kernel
theorem dX3_cellsToBleed_3 : decode cX3_cellsToBleed 3 = .ok (.istore 4, 2) := by decide +kernel
theorem dX3_cellsToBleed_5 : decode cX3_cellsToBleed 5 = .ok (.iload 4, 2) := by decide +kernel
theorem dX3_cellsToBleed_7 : decode cX3_cellsToBleed 7 = .ok (.bipush 6, 2) := by decide +kernel
theorem dX3_cellsToBleed_9 : decode cX3_cellsToBleed 9 = .ok (.if_icmp .ge 72, 3) := by decide +kernel
theorem dX3_cellsToBleed_12 : decode cX3_cellsToBleed 12 = .ok (.aload_n 0, 1) := by decide +kernel
theorem dX3_cellsToBleed_13 : decode cX3_cellsToBleed 13 = .ok (.getfield 9, 3) := by decide +kernel
theorem dX3_cellsToBleed_16 : decode cX3_cellsToBleed 16 = .ok (.iload 4, 2) := by decide +kernel
theorem dX3_cellsToBleed_18 : decode cX3_cellsToBleed 18 = .ok (.iaload, 1) := by decide +kernel
theorem dX3_cellsToBleed_19 : decode cX3_cellsToBleed 19 = .ok (.istore 5, 2) := by decide +kernel
theorem dX3_cellsToBleed_21 : decode cX3_cellsToBleed 21 = .ok (.iload 4, 2) := by decide +kernel
theorem dX3_cellsToBleed_23 : decode cX3_cellsToBleed 23 = .ok (.iload_n 2, 1) := by decide +kernel
theorem dX3_cellsToBleed_24 : decode cX3_cellsToBleed 24 = .ok (.iadd, 1) := by decide +kernel
theorem dX3_cellsToBleed_25 : decode cX3_cellsToBleed 25 = .ok (.iconst 1, 1) := by decide +kernel
theorem dX3_cellsToBleed_26 : decode cX3_cellsToBleed 26 = .ok (.iand, 1) := by decide +kernel
theorem dX3_cellsToBleed_27 : decode cX3_cellsToBleed 27 = .ok (.ifCond .ne 7, 3) := by decide +kernel
theorem dX3_cellsToBleed_30 : decode cX3_cellsToBleed 30 = .ok (.iconst 1, 1) := by decide +kernel
theorem dX3_cellsToBleed_31 : decode cX3_cellsToBleed 31 = .ok (.goto 4, 3) := by decide +kernel
theorem dX3_cellsToBleed_34 : decode cX3_cellsToBleed 34 = .ok (.iconst 0, 1) := by decide +kernel
theorem dX3_cellsToBleed_35 : decode cX3_cellsToBleed 35 = .ok (.istore 6, 2) := by decide +kernel
theorem dX3_cellsToBleed_37 : decode cX3_cellsToBleed 37 = .ok (.iload 6, 2) := by decide +kernel
theorem dX3_cellsToBleed_39 : decode cX3_cellsToBleed 39 = .ok (.ifCond .eq 36, 3) := by decide +kernel
theorem dX3_cellsToBleed_42 : decode cX3_cellsToBleed 42 = .ok (.aload_n 0, 1) := by decide +kernel
theorem dX3_cellsToBleed_43 : decode cX3_cellsToBleed 43 = .ok (.iload 4, 2) := by decide +kernel
theorem dX3_cellsToBleed_45 : decode cX3_cellsToBleed 45 = .ok (.invokevirtual 66, 3) := by decide +kernel
theorem dX3_cellsToBleed_48 : decode cX3_cellsToBleed 48 = .ok (.ifCond .eq 27, 3) := by decide +kernel
theorem dX3_cellsToBleed_51 : decode cX3_cellsToBleed 51 = .ok (.iload 5, 2) := by decide +kernel
theorem dX3_cellsToBleed_53 : decode cX3_cellsToBleed 53 = .ok (.sipush 3300, 3) := by decide +kernel
theorem dX3_cellsToBleed_56 : decode cX3_cellsToBleed 56 = .ok (.if_icmp .le 19, 3) := by decide +kernel
theorem dX3_cellsToBleed_59 : decode cX3_cellsToBleed 59 = .ok (.iload 5, 2) := by decide +kernel
theorem dX3_cellsToBleed_61 : decode cX3_cellsToBleed 61 = .ok (.iload_n 1, 1) := by decide +kernel
theorem dX3_cellsToBleed_62 : decode cX3_cellsToBleed 62 = .ok (.isub, 1) := by decide +kernel
theorem dX3_cellsToBleed_63 : decode cX3_cellsToBleed 63 = .ok (.bipush 8, 2) := by decide +kernel
theorem dX3_cellsToBleed_65 : decode cX3_cellsToBleed 65 = .ok (.if_icmp .le 10, 3) := by decide +kernel
theorem dX3_cellsToBleed_68 : decode cX3_cellsToBleed 68 = .ok (.iload_n 3, 1) := by decide +kernel
theorem dX3_cellsToBleed_69 : decode cX3_cellsToBleed 69 = .ok (.iconst 1, 1) := by decide +kernel
theorem dX3_cellsToBleed_70 : decode cX3_cellsToBleed 70 = .ok (.iload 4, 2) := by decide +kernel
theorem dX3_cellsToBleed_72 : decode cX3_cellsToBleed 72 = .ok (.ishl, 1) := by decide +kernel
theorem dX3_cellsToBleed_73 : decode cX3_cellsToBleed 73 = .ok (.ior, 1) := by decide +kernel
theorem dX3_cellsToBleed_74 : decode cX3_cellsToBleed 74 = .ok (.istore_n 3, 1) := by decide +kernel
theorem dX3_cellsToBleed_75 : decode cX3_cellsToBleed 75 = .ok (.iinc 4 1, 3) := by decide +kernel
theorem dX3_cellsToBleed_78 : decode cX3_cellsToBleed 78 = .ok (.goto (-73), 3) := by decide +kernel
theorem dX3_cellsToBleed_81 : decode cX3_cellsToBleed 81 = .ok (.iload_n 3, 1) := by decide +kernel
theorem dX3_cellsToBleed_82 : decode cX3_cellsToBleed 82 = .ok (.ireturn, 1) := by decide +kernel
theorem dX4_init_0 : decode cX4_init 0 = .ok (.aload_n 0, 1) := by decide +kernel
theorem dX4_init_1 : decode cX4_init 1 = .ok (.invokespecial 1, 3) := by decide +kernel
theorem dX4_init_4 : decode cX4_init 4 = .ok (.return_, 1) := by decide +kernel
theorem dX4_beginAnew_0 : decode cX4_beginAnew 0 = .ok (.aload_n 0, 1) := by decide +kernel
theorem dX4_beginAnew_1 : decode cX4_beginAnew 1 = .ok (.iconst 0, 1) := by decide +kernel
theorem dX4_beginAnew_2 : decode cX4_beginAnew 2 = .ok (.putfield 9, 3) := by decide +kernel
theorem dX4_beginAnew_5 : decode cX4_beginAnew 5 = .ok (.aload_n 0, 1) := by decide +kernel
theorem dX4_beginAnew_6 : decode cX4_beginAnew 6 = .ok (.iconst 0, 1) := by decide +kernel
theorem dX4_beginAnew_7 : decode cX4_beginAnew 7 = .ok (.putfield 13, 3) := by decide +kernel
theorem dX4_beginAnew_10 : decode cX4_beginAnew 10 = .ok (.return_, 1) := by decide +kernel
set_option maxRecDepth 20000 in
theorem ggX4_step_X0_anySerious : GoodIn wsX4_step wsX0_anySerious := goodIn_r _ [7, 8, 37, 38, 39, 40] (by decide +kernel) (by decide +kernel)
set_option maxRecDepth 20000 in
theorem gX4_step_X0_anySerious : GoodIn wsX4_step (wsV RX4 16 RX0 yX0_anySerious wsX0_anySerious) := goodIn_app (goodIn_of _ (by decide +kernel)) ggX4_step_X0_anySerious
set_option maxRecDepth 20000 in
theorem ggX4_step_X4_opened : GoodIn wsX4_step wsX4_opened := goodIn_r _ [13, 1, 14, 15, 16, 17, 6, 18, 8, 19, 20, 21, 22, 23, 35, 36, 41, 42, 43, 44, 45, 46, 47, 37, 38, 39, 40] (by decide +kernel) (by decide +kernel)
set_option maxRecDepth 20000 in
theorem gX4_step_X4_opened : GoodIn wsX4_step (wsV RX4 22 RX4 yX4_opened wsX4_opened) := goodIn_app (goodIn_of _ (by decide +kernel)) ggX4_step_X4_opened
set_option maxRecDepth 20000 in
theorem ggX4_step_X4_precharged : GoodIn wsX4_step wsX4_precharged := goodIn_r _ [27, 14, 1, 28, 29, 30, 31, 32, 33, 34, 15, 16, 17, 6, 18, 8, 19, 20, 21, 22, 23, 41, 42, 43, 44, 45, 46, 47, 35, 36, 37, 38, 39, 40] (by decide +kernel) (by decide +kernel)
set_option maxRecDepth 20000 in
theorem gX4_step_X4_precharged : GoodIn wsX4_step (wsV RX4 26 RX4 yX4_precharged wsX4_precharged) := goodIn_app (goodIn_of _ (by decide +kernel)) ggX4_step_X4_precharged
theorem dX4_step_0 : decode cX4_step 0 = .ok (.aload_n 0, 1) := by decide +kernel
theorem dX4_step_1 : decode cX4_step 1 = .ok (.dup, 1) := by decide +kernel
theorem dX4_step_2 : decode cX4_step 2 = .ok (.getfield 13, 3) := by decide +kernel
theorem dX4_step_5 : decode cX4_step 5 = .ok (.iconst 1, 1) := by decide +kernel
theorem dX4_step_6 : decode cX4_step 6 = .ok (.iadd, 1) := by decide +kernel
theorem dX4_step_7 : decode cX4_step 7 = .ok (.putfield 13, 3) := by decide +kernel
theorem dX4_step_10 : decode cX4_step 10 = .ok (.iload_n 1, 1) := by decide +kernel
theorem dX4_step_11 : decode cX4_step 11 = .ok (.ifCond .eq 15, 3) := by decide +kernel
theorem dX4_step_14 : decode cX4_step 14 = .ok (.aload 4, 2) := by decide +kernel
theorem dX4_step_16 : decode cX4_step 16 = .ok (.invokevirtual 16, 3) := by decide +kernel
theorem dX4_step_19 : decode cX4_step 19 = .ok (.ifCond .ne 7, 3) := by decide +kernel
theorem dX4_step_22 : decode cX4_step 22 = .ok (.iconst 1, 1) := by decide +kernel
theorem dX4_step_23 : decode cX4_step 23 = .ok (.goto 4, 3) := by decide +kernel
theorem dX4_step_26 : decode cX4_step 26 = .ok (.iconst 0, 1) := by decide +kernel
theorem dX4_step_27 : decode cX4_step 27 = .ok (.istore 5, 2) := by decide +kernel
theorem dX4_step_29 : decode cX4_step 29 = .ok (.aload_n 0, 1) := by decide +kernel
theorem dX4_step_30 : decode cX4_step 30 = .ok (.getfield 9, 3) := by decide +kernel
theorem dX4_step_33 : decode cX4_step 33 = .ok (.istore 6, 2) := by decide +kernel
theorem dX4_step_35 : decode cX4_step 35 = .ok (.aload_n 0, 1) := by decide +kernel
theorem dX4_step_36 : decode cX4_step 36 = .ok (.getfield 9, 3) := by decide +kernel
theorem dX4_step_39 : decode cX4_step 39 = .ok (.ifCond .ne 18, 3) := by decide +kernel
theorem dX4_step_42 : decode cX4_step 42 = .ok (.iload 5, 2) := by decide +kernel
theorem dX4_step_44 : decode cX4_step 44 = .ok (.ifCond .eq 7, 3) := by decide +kernel
theorem dX4_step_47 : decode cX4_step 47 = .ok (.iconst 1, 1) := by decide +kernel
theorem dX4_step_48 : decode cX4_step 48 = .ok (.goto 4, 3) := by decide +kernel
theorem dX4_step_51 : decode cX4_step 51 = .ok (.iconst 0, 1) := by decide +kernel
theorem dX4_step_52 : decode cX4_step 52 = .ok (.istore 6, 2) := by decide +kernel
theorem dX4_step_54 : decode cX4_step 54 = .ok (.goto 79, 3) := by decide +kernel
theorem dX4_step_57 : decode cX4_step 57 = .ok (.aload_n 0, 1) := by decide +kernel
theorem dX4_step_58 : decode cX4_step 58 = .ok (.getfield 9, 3) := by decide +kernel
theorem dX4_step_61 : decode cX4_step 61 = .ok (.iconst 4, 1) := by decide +kernel
theorem dX4_step_62 : decode cX4_step 62 = .ok (.if_icmp .ne 16, 3) := by decide +kernel
theorem dX4_step_65 : decode cX4_step 65 = .ok (.aload_n 0, 1) := by decide +kernel
theorem dX4_step_66 : decode cX4_step 66 = .ok (.iload_n 2, 1) := by decide +kernel
theorem dX4_step_67 : decode cX4_step 67 = .ok (.aload_n 3, 1) := by decide +kernel
theorem dX4_step_68 : decode cX4_step 68 = .ok (.aload 4, 2) := by decide +kernel
theorem dX4_step_70 : decode cX4_step 70 = .ok (.invokevirtual 22, 3) := by decide +kernel
theorem dX4_step_73 : decode cX4_step 73 = .ok (.istore 6, 2) := by decide +kernel
theorem dX4_step_75 : decode cX4_step 75 = .ok (.goto 58, 3) := by decide +kernel
theorem dX4_step_78 : decode cX4_step 78 = .ok (.iload 5, 2) := by decide +kernel
theorem dX4_step_80 : decode cX4_step 80 = .ok (.ifCond .ne 9, 3) := by decide +kernel
theorem dX4_step_83 : decode cX4_step 83 = .ok (.iconst 4, 1) := by decide +kernel
theorem dX4_step_84 : decode cX4_step 84 = .ok (.istore 6, 2) := by decide +kernel
theorem dX4_step_86 : decode cX4_step 86 = .ok (.goto 47, 3) := by decide +kernel
theorem dX4_step_89 : decode cX4_step 89 = .ok (.aload_n 0, 1) := by decide +kernel
theorem dX4_step_90 : decode cX4_step 90 = .ok (.getfield 9, 3) := by decide +kernel
theorem dX4_step_93 : decode cX4_step 93 = .ok (.iconst 1, 1) := by decide +kernel
theorem dX4_step_94 : decode cX4_step 94 = .ok (.if_icmp .ne 21, 3) := by decide +kernel
theorem dX4_step_97 : decode cX4_step 97 = .ok (.aload_n 0, 1) := by decide +kernel
theorem dX4_step_98 : decode cX4_step 98 = .ok (.getfield 13, 3) := by decide +kernel
theorem dX4_step_101 : decode cX4_step 101 = .ok (.iconst 2, 1) := by decide +kernel
theorem dX4_step_102 : decode cX4_step 102 = .ok (.if_icmp .lt 7, 3) := by decide +kernel
theorem dX4_step_105 : decode cX4_step 105 = .ok (.iconst 2, 1) := by decide +kernel
theorem dX4_step_106 : decode cX4_step 106 = .ok (.goto 4, 3) := by decide +kernel
theorem dX4_step_109 : decode cX4_step 109 = .ok (.iconst 1, 1) := by decide +kernel
theorem dX4_step_110 : decode cX4_step 110 = .ok (.istore 6, 2) := by decide +kernel
theorem dX4_step_112 : decode cX4_step 112 = .ok (.goto 21, 3) := by decide +kernel
theorem dX4_step_115 : decode cX4_step 115 = .ok (.aload_n 0, 1) := by decide +kernel
theorem dX4_step_116 : decode cX4_step 116 = .ok (.getfield 9, 3) := by decide +kernel
theorem dX4_step_119 : decode cX4_step 119 = .ok (.iconst 2, 1) := by decide +kernel
theorem dX4_step_120 : decode cX4_step 120 = .ok (.if_icmp .ne 13, 3) := by decide +kernel
theorem dX4_step_123 : decode cX4_step 123 = .ok (.aload_n 0, 1) := by decide +kernel
theorem dX4_step_124 : decode cX4_step 124 = .ok (.iload_n 2, 1) := by decide +kernel
theorem dX4_step_125 : decode cX4_step 125 = .ok (.aload_n 3, 1) := by decide +kernel
theorem dX4_step_126 : decode cX4_step 126 = .ok (.aload 4, 2) := by decide +kernel
theorem dX4_step_128 : decode cX4_step 128 = .ok (.invokevirtual 26, 3) := by decide +kernel
theorem dX4_step_131 : decode cX4_step 131 = .ok (.istore 6, 2) := by decide +kernel
theorem dX4_step_133 : decode cX4_step 133 = .ok (.iload 6, 2) := by decide +kernel
theorem dX4_step_135 : decode cX4_step 135 = .ok (.aload_n 0, 1) := by decide +kernel
theorem dX4_step_136 : decode cX4_step 136 = .ok (.getfield 9, 3) := by decide +kernel
theorem dX4_step_139 : decode cX4_step 139 = .ok (.if_icmp .eq 14, 3) := by decide +kernel
theorem dX4_step_142 : decode cX4_step 142 = .ok (.aload_n 0, 1) := by decide +kernel
theorem dX4_step_143 : decode cX4_step 143 = .ok (.iload 6, 2) := by decide +kernel
theorem dX4_step_145 : decode cX4_step 145 = .ok (.putfield 9, 3) := by decide +kernel
theorem dX4_step_148 : decode cX4_step 148 = .ok (.aload_n 0, 1) := by decide +kernel
theorem dX4_step_149 : decode cX4_step 149 = .ok (.iconst 0, 1) := by decide +kernel
theorem dX4_step_150 : decode cX4_step 150 = .ok (.putfield 13, 3) := by decide +kernel
theorem dX4_step_153 : decode cX4_step 153 = .ok (.return_, 1) := by decide +kernel
set_option maxRecDepth 20000 in
theorem ggX4_precharged_X5_allValid : GoodIn wsX4_precharged wsX5_allValid := goodIn_r _ [7, 8, 9, 21, 22, 23, 24, 25, 26, 27] (by decide +kernel) (by decide +kernel)
set_option maxRecDepth 20000 in
theorem gX4_precharged_X5_allValid : GoodIn wsX4_precharged (wsV RX4 29 RX5 yX5_allValid wsX5_allValid) := goodIn_app (goodIn_of _ (by decide +kernel)) ggX4_precharged_X5_allValid
set_option maxRecDepth 20000 in
theorem ggX4_precharged_X0_latch : GoodIn wsX4_precharged wsX0_latch := goodIn_r _ [14, 15, 16, 17, 18, 19, 13, 20, 30, 31, 32, 33] (by decide +kernel) (by decide +kernel)
set_option maxRecDepth 20000 in
theorem gX4_precharged_X0_latch : GoodIn wsX4_precharged (wsV RX4 37 RX0 yX0_latch wsX0_latch) := goodIn_app (goodIn_of _ (by decide +kernel)) ggX4_precharged_X0_latch
theorem dX4_precharged_0 : decode cX4_precharged 0 = .ok (.aload_n 2, 1) := by decide +kernel
theorem dX4_precharged_1 : decode cX4_precharged 1 = .ok (.invokevirtual 29, 3) := by decide +kernel
theorem dX4_precharged_4 : decode cX4_precharged 4 = .ok (.ifCond .eq 19, 3) := by decide +kernel
theorem dX4_precharged_7 : decode cX4_precharged 7 = .ok (.bipush 20, 2) := by decide +kernel
theorem dX4_precharged_9 : decode cX4_precharged 9 = .ok (.iload_n 1, 1) := by decide +kernel
theorem dX4_precharged_10 : decode cX4_precharged 10 = .ok (.imul, 1) := by decide +kernel
theorem dX4_precharged_11 : decode cX4_precharged 11 = .ok (.bipush 19, 2) := by decide +kernel
theorem dX4_precharged_13 : decode cX4_precharged 13 = .ok (.aload_n 2, 1) := by decide +kernel
theorem dX4_precharged_14 : decode cX4_precharged 14 = .ok (.getfield 34, 3) := by decide +kernel
theorem dX4_precharged_17 : decode cX4_precharged 17 = .ok (.imul, 1) := by decide +kernel
theorem dX4_precharged_18 : decode cX4_precharged 18 = .ok (.if_icmp .lt 5, 3) := by decide +kernel
theorem dX4_precharged_21 : decode cX4_precharged 21 = .ok (.iconst 3, 1) := by decide +kernel
theorem dX4_precharged_22 : decode cX4_precharged 22 = .ok (.ireturn, 1) := by decide +kernel
theorem dX4_precharged_23 : decode cX4_precharged 23 = .ok (.aload_n 0, 1) := by decide +kernel
theorem dX4_precharged_24 : decode cX4_precharged 24 = .ok (.getfield 13, 3) := by decide +kernel
theorem dX4_precharged_27 : decode cX4_precharged 27 = .ok (.bipush 30, 2) := by decide +kernel
theorem dX4_precharged_29 : decode cX4_precharged 29 = .ok (.if_icmp .ge 5, 3) := by decide +kernel
theorem dX4_precharged_32 : decode cX4_precharged 32 = .ok (.iconst 2, 1) := by decide +kernel
theorem dX4_precharged_33 : decode cX4_precharged 33 = .ok (.ireturn, 1) := by decide +kernel
theorem dX4_precharged_34 : decode cX4_precharged 34 = .ok (.aload_n 3, 1) := by decide +kernel
theorem dX4_precharged_35 : decode cX4_precharged 35 = .ok (.bipush 7, 2) := by decide +kernel
theorem dX4_precharged_37 : decode cX4_precharged 37 = .ok (.invokevirtual 37, 3) := by decide +kernel
theorem dX4_precharged_40 : decode cX4_precharged 40 = .ok (.iconst 4, 1) := by decide +kernel
theorem dX4_precharged_41 : decode cX4_precharged 41 = .ok (.ireturn, 1) := by decide +kernel
set_option maxRecDepth 20000 in
theorem ggX4_opened_X0_latch : GoodIn wsX4_opened wsX0_latch := goodIn_r _ [7, 8, 9, 10, 11, 12, 6, 13, 23, 24, 25, 26] (by decide +kernel) (by decide +kernel)
set_option maxRecDepth 20000 in
theorem gX4_opened_X0_latch : GoodIn wsX4_opened (wsV RX4 37 RX0 yX0_latch wsX0_latch) := goodIn_app (goodIn_of _ (by decide +kernel)) ggX4_opened_X0_latch
theorem dX4_opened_0 : decode cX4_opened 0 = .ok (.aload_n 0, 1) := by decide +kernel
theorem dX4_opened_1 : decode cX4_opened 1 = .ok (.getfield 13, 3) := by decide +kernel
theorem dX4_opened_4 : decode cX4_opened 4 = .ok (.iconst 3, 1) := by decide +kernel
theorem dX4_opened_5 : decode cX4_opened 5 = .ok (.if_icmp .ge 5, 3) := by decide +kernel
theorem dX4_opened_8 : decode cX4_opened 8 = .ok (.iconst 4, 1) := by decide +kernel
theorem dX4_opened_9 : decode cX4_opened 9 = .ok (.ireturn, 1) := by decide +kernel
theorem dX4_opened_10 : decode cX4_opened 10 = .ok (.iconst 2, 1) := by decide +kernel
theorem dX4_opened_11 : decode cX4_opened 11 = .ok (.iload_n 1, 1) := by decide +kernel
theorem dX4_opened_12 : decode cX4_opened 12 = .ok (.imul, 1) := by decide +kernel
theorem dX4_opened_13 : decode cX4_opened 13 = .ok (.aload_n 2, 1) := by decide +kernel
theorem dX4_opened_14 : decode cX4_opened 14 = .ok (.getfield 34, 3) := by decide +kernel
theorem dX4_opened_17 : decode cX4_opened 17 = .ok (.if_icmp .le 9, 3) := by decide +kernel
theorem dX4_opened_20 : decode cX4_opened 20 = .ok (.aload_n 3, 1) := by decide +kernel
theorem dX4_opened_21 : decode cX4_opened 21 = .ok (.bipush 8, 2) := by decide +kernel
theorem dX4_opened_23 : decode cX4_opened 23 = .ok (.invokevirtual 37, 3) := by decide +kernel
theorem dX4_opened_26 : decode cX4_opened 26 = .ok (.iconst 0, 1) := by decide +kernel
theorem dX4_opened_27 : decode cX4_opened 27 = .ok (.ireturn, 1) := by decide +kernel
theorem dX5_init_0 : decode cX5_init 0 = .ok (.aload_n 0, 1) := by decide +kernel
theorem dX5_init_1 : decode cX5_init 1 = .ok (.invokespecial 3, 3) := by decide +kernel
theorem dX5_init_4 : decode cX5_init 4 = .ok (.return_, 1) := by decide +kernel
set_option maxRecDepth 20000 in
theorem ggX5_look_X3_isStale : GoodIn wsX5_look wsX3_isStale := goodIn_r _ [16, 17, 18, 57, 58, 59, 60, 61, 62, 63, 64] (by decide +kernel) (by decide +kernel)
set_option maxRecDepth 20000 in
theorem gX5_look_X3_isStale : GoodIn wsX5_look (wsV RX5 47 RX3 yX3_isStale wsX3_isStale) := goodIn_app (goodIn_of _ (by decide +kernel)) ggX5_look_X3_isStale
set_option maxRecDepth 20000 in
theorem ggX5_look_X5_lookAtCells : GoodIn wsX5_look wsX5_lookAtCells := goodIn_r _ [23, 24, 3, 5, 25, 26, 27, 28, 6, 29, 30, 31, 2, 32, 33, 34, 15, 35, 36, 37, 38, 13, 14, 16, 17, 18, 39, 40, 41, 42, 43, 44, 45, 46, 47, 48, 49, 57, 58, 59, 60, 61, 62, 63, 64, 50, 51, 52, 53, 54, 55, 56] (by decide +kernel) (by decide +kernel)
set_option maxRecDepth 20000 in
theorem gX5_look_X5_lookAtCells : GoodIn wsX5_look (wsV RX5 51 RX5 yX5_lookAtCells wsX5_lookAtCells) := goodIn_app (goodIn_of _ (by decide +kernel)) ggX5_look_X5_lookAtCells
theorem dX5_look_0 : decode cX5_look 0 = .ok (.aload_n 0, 1) := by decide +kernel
theorem dX5_look_1 : decode cX5_look 1 = .ok (.iconst 0, 1) := by decide +kernel
theorem dX5_look_2 : decode cX5_look 2 = .ok (.putfield 9, 3) := by decide +kernel
theorem dX5_look_5 : decode cX5_look 5 = .ok (.aload_n 0, 1) := by decide +kernel
theorem dX5_look_6 : decode cX5_look 6 = .ok (.iconst 0, 1) := by decide +kernel
theorem dX5_look_7 : decode cX5_look 7 = .ok (.putfield 15, 3) := by decide +kernel
theorem dX5_look_10 : decode cX5_look 10 = .ok (.aload_n 0, 1) := by decide +kernel
theorem dX5_look_11 : decode cX5_look 11 = .ok (.iconst 0, 1) := by decide +kernel
theorem dX5_look_12 : decode cX5_look 12 = .ok (.putfield 18, 3) := by decide +kernel
theorem dX5_look_15 : decode cX5_look 15 = .ok (.aload_n 0, 1) := by decide +kernel
theorem dX5_look_16 : decode cX5_look 16 = .ok (.ldc 24, 2) := by decide +kernel
theorem dX5_look_18 : decode cX5_look 18 = .ok (.putfield 25, 3) := by decide +kernel
theorem dX5_look_21 : decode cX5_look 21 = .ok (.aload_n 0, 1) := by decide +kernel
theorem dX5_look_22 : decode cX5_look 22 = .ok (.iconst 0, 1) := by decide +kernel
theorem dX5_look_23 : decode cX5_look 23 = .ok (.putfield 28, 3) := by decide +kernel
theorem dX5_look_26 : decode cX5_look 26 = .ok (.aload_n 0, 1) := by decide +kernel
theorem dX5_look_27 : decode cX5_look 27 = .ok (.ldc2_w 31, 3) := by decide +kernel
theorem dX5_look_30 : decode cX5_look 30 = .ok (.putfield 33, 3) := by decide +kernel
theorem dX5_look_33 : decode cX5_look 33 = .ok (.aload_n 0, 1) := by decide +kernel
theorem dX5_look_34 : decode cX5_look 34 = .ok (.ldc2_w 37, 3) := by decide +kernel
theorem dX5_look_37 : decode cX5_look 37 = .ok (.putfield 39, 3) := by decide +kernel
theorem dX5_look_40 : decode cX5_look 40 = .ok (.aload_n 1, 1) := by decide +kernel
theorem dX5_look_41 : decode cX5_look 41 = .ok (.astore_n 2, 1) := by decide +kernel
theorem dX5_look_42 : decode cX5_look 42 = .ok (.aload_n 2, 1) := by decide +kernel
theorem dX5_look_43 : decode cX5_look 43 = .ok (.arraylength, 1) := by decide +kernel
theorem dX5_look_44 : decode cX5_look 44 = .ok (.istore_n 3, 1) := by decide +kernel
theorem dX5_look_45 : decode cX5_look 45 = .ok (.iconst 0, 1) := by decide +kernel
theorem dX5_look_46 : decode cX5_look 46 = .ok (.istore 4, 2) := by decide +kernel
theorem dX5_look_48 : decode cX5_look 48 = .ok (.iload 4, 2) := by decide +kernel
theorem dX5_look_50 : decode cX5_look 50 = .ok (.iload_n 3, 1) := by decide +kernel
theorem dX5_look_51 : decode cX5_look 51 = .ok (.if_icmp .ge 95, 3) := by decide +kernel
theorem dX5_look_54 : decode cX5_look 54 = .ok (.aload_n 2, 1) := by decide +kernel
theorem dX5_look_55 : decode cX5_look 55 = .ok (.iload 4, 2) := by decide +kernel
theorem dX5_look_57 : decode cX5_look 57 = .ok (.aaload, 1) := by decide +kernel
theorem dX5_look_58 : decode cX5_look 58 = .ok (.astore 5, 2) := by decide +kernel
theorem dX5_look_60 : decode cX5_look 60 = .ok (.aload_n 0, 1) := by decide +kernel
theorem dX5_look_61 : decode cX5_look 61 = .ok (.aload 5, 2) := by decide +kernel
theorem dX5_look_63 : decode cX5_look 63 = .ok (.getfield 42, 3) := by decide +kernel
theorem dX5_look_66 : decode cX5_look 66 = .ok (.aload_n 0, 1) := by decide +kernel
theorem dX5_look_67 : decode cX5_look 67 = .ok (.getfield 33, 3) := by decide +kernel
theorem dX5_look_70 : decode cX5_look 70 = .ok (.dcmp .l, 1) := by decide +kernel
theorem dX5_look_71 : decode cX5_look 71 = .ok (.ifCond .le 11, 3) := by decide +kernel
theorem dX5_look_74 : decode cX5_look 74 = .ok (.aload 5, 2) := by decide +kernel
theorem dX5_look_76 : decode cX5_look 76 = .ok (.getfield 42, 3) := by decide +kernel
theorem dX5_look_79 : decode cX5_look 79 = .ok (.goto 7, 3) := by decide +kernel
theorem dX5_look_82 : decode cX5_look 82 = .ok (.aload_n 0, 1) := by decide +kernel
theorem dX5_look_83 : decode cX5_look 83 = .ok (.getfield 33, 3) := by decide +kernel
theorem dX5_look_86 : decode cX5_look 86 = .ok (.putfield 33, 3) := by decide +kernel
theorem dX5_look_89 : decode cX5_look 89 = .ok (.aload_n 0, 1) := by decide +kernel
theorem dX5_look_90 : decode cX5_look 90 = .ok (.aload 5, 2) := by decide +kernel
theorem dX5_look_92 : decode cX5_look 92 = .ok (.getfield 42, 3) := by decide +kernel
theorem dX5_look_95 : decode cX5_look 95 = .ok (.aload_n 0, 1) := by decide +kernel
theorem dX5_look_96 : decode cX5_look 96 = .ok (.getfield 39, 3) := by decide +kernel
theorem dX5_look_99 : decode cX5_look 99 = .ok (.dcmp .g, 1) := by decide +kernel
theorem dX5_look_100 : decode cX5_look 100 = .ok (.ifCond .ge 11, 3) := by decide +kernel
theorem dX5_look_103 : decode cX5_look 103 = .ok (.aload 5, 2) := by decide +kernel
theorem dX5_look_105 : decode cX5_look 105 = .ok (.getfield 42, 3) := by decide +kernel
theorem dX5_look_108 : decode cX5_look 108 = .ok (.goto 7, 3) := by decide +kernel
theorem dX5_look_111 : decode cX5_look 111 = .ok (.aload_n 0, 1) := by decide +kernel
theorem dX5_look_112 : decode cX5_look 112 = .ok (.getfield 39, 3) := by decide +kernel
theorem dX5_look_115 : decode cX5_look 115 = .ok (.putfield 39, 3) := by decide +kernel
theorem dX5_look_118 : decode cX5_look 118 = .ok (.aload 5, 2) := by decide +kernel
theorem dX5_look_120 : decode cX5_look 120 = .ok (.invokevirtual 47, 3) := by decide +kernel
theorem dX5_look_123 : decode cX5_look 123 = .ok (.ifCond .eq 11, 3) := by decide +kernel
theorem dX5_look_126 : decode cX5_look 126 = .ok (.aload_n 0, 1) := by decide +kernel
theorem dX5_look_127 : decode cX5_look 127 = .ok (.iconst 1, 1) := by decide +kernel
theorem dX5_look_128 : decode cX5_look 128 = .ok (.putfield 9, 3) := by decide +kernel
theorem dX5_look_131 : decode cX5_look 131 = .ok (.goto 9, 3) := by decide +kernel
theorem dX5_look_134 : decode cX5_look 134 = .ok (.aload_n 0, 1) := by decide +kernel
theorem dX5_look_135 : decode cX5_look 135 = .ok (.aload 5, 2) := by decide +kernel
theorem dX5_look_137 : decode cX5_look 137 = .ok (.invokevirtual 51, 3) := by decide +kernel
theorem dX5_look_140 : decode cX5_look 140 = .ok (.iinc 4 1, 3) := by decide +kernel
theorem dX5_look_143 : decode cX5_look 143 = .ok (.goto (-95), 3) := by decide +kernel
theorem dX5_look_146 : decode cX5_look 146 = .ok (.return_, 1) := by decide +kernel
set_option maxRecDepth 20000 in
theorem ggX5_lookAtCells_X3_isValid : GoodIn wsX5_lookAtCells wsX3_isValid := goodIn_r _ [17, 18, 19, 20, 21, 22, 16, 23, 24, 25, 26, 27, 28, 29, 30, 31, 32, 33, 34, 35, 36, 37, 38, 39, 40, 41, 42, 43, 44] (by decide +kernel) (by decide +kernel)
set_option maxRecDepth 20000 in
theorem gX5_lookAtCells_X3_isValid : GoodIn wsX5_lookAtCells (wsV RX5 55 RX3 yX3_isValid wsX3_isValid) := goodIn_app (goodIn_of _ (by decide +kernel)) ggX5_lookAtCells_X3_isValid
theorem dX5_lookAtCells_0 : decode cX5_lookAtCells 0 = .ok (.iconst 0, 1) := by decide +kernel
theorem dX5_lookAtCells_1 : decode cX5_lookAtCells 1 = .ok (.istore_n 2, 1) := by decide +kernel
theorem dX5_lookAtCells_2 : decode cX5_lookAtCells 2 = .ok (.iload_n 2, 1) := by decide +kernel
theorem dX5_lookAtCells_3 : decode cX5_lookAtCells 3 = .ok (.bipush 6, 2) := by decide +kernel
theorem dX5_lookAtCells_5 : decode cX5_lookAtCells 5 = .ok (.if_icmp .ge 66, 3) := by decide +kernel
theorem dX5_lookAtCells_8 : decode cX5_lookAtCells 8 = .ok (.aload_n 1, 1) := by decide +kernel
theorem dX5_lookAtCells_9 : decode cX5_lookAtCells 9 = .ok (.iload_n 2, 1) := by decide +kernel
theorem dX5_lookAtCells_10 : decode cX5_lookAtCells 10 = .ok (.invokevirtual 55, 3) := by decide +kernel
theorem dX5_lookAtCells_13 : decode cX5_lookAtCells 13 = .ok (.ifCond .eq 47, 3) := by decide +kernel
theorem dX5_lookAtCells_16 : decode cX5_lookAtCells 16 = .ok (.aload_n 1, 1) := by decide +kernel
theorem dX5_lookAtCells_17 : decode cX5_lookAtCells 17 = .ok (.getfield 59, 3) := by decide +kernel
theorem dX5_lookAtCells_20 : decode cX5_lookAtCells 20 = .ok (.iload_n 2, 1) := by decide +kernel
theorem dX5_lookAtCells_21 : decode cX5_lookAtCells 21 = .ok (.iaload, 1) := by decide +kernel
theorem dX5_lookAtCells_22 : decode cX5_lookAtCells 22 = .ok (.istore_n 3, 1) := by decide +kernel
theorem dX5_lookAtCells_23 : decode cX5_lookAtCells 23 = .ok (.aload_n 0, 1) := by decide +kernel
theorem dX5_lookAtCells_24 : decode cX5_lookAtCells 24 = .ok (.dup, 1) := by decide +kernel
theorem dX5_lookAtCells_25 : decode cX5_lookAtCells 25 = .ok (.getfield 18, 3) := by decide +kernel
theorem dX5_lookAtCells_28 : decode cX5_lookAtCells 28 = .ok (.iload_n 3, 1) := by decide +kernel
theorem dX5_lookAtCells_29 : decode cX5_lookAtCells 29 = .ok (.iadd, 1) := by decide +kernel
theorem dX5_lookAtCells_30 : decode cX5_lookAtCells 30 = .ok (.putfield 18, 3) := by decide +kernel
theorem dX5_lookAtCells_33 : decode cX5_lookAtCells 33 = .ok (.aload_n 0, 1) := by decide +kernel
theorem dX5_lookAtCells_34 : decode cX5_lookAtCells 34 = .ok (.aload_n 0, 1) := by decide +kernel
theorem dX5_lookAtCells_35 : decode cX5_lookAtCells 35 = .ok (.getfield 25, 3) := by decide +kernel
theorem dX5_lookAtCells_38 : decode cX5_lookAtCells 38 = .ok (.iload_n 3, 1) := by decide +kernel
theorem dX5_lookAtCells_39 : decode cX5_lookAtCells 39 = .ok (.invokestatic 63, 3) := by decide +kernel
theorem dX5_lookAtCells_42 : decode cX5_lookAtCells 42 = .ok (.putfield 25, 3) := by decide +kernel
theorem dX5_lookAtCells_45 : decode cX5_lookAtCells 45 = .ok (.aload_n 0, 1) := by decide +kernel
theorem dX5_lookAtCells_46 : decode cX5_lookAtCells 46 = .ok (.aload_n 0, 1) := by decide +kernel
theorem dX5_lookAtCells_47 : decode cX5_lookAtCells 47 = .ok (.getfield 28, 3) := by decide +kernel
theorem dX5_lookAtCells_50 : decode cX5_lookAtCells 50 = .ok (.iload_n 3, 1) := by decide +kernel
theorem dX5_lookAtCells_51 : decode cX5_lookAtCells 51 = .ok (.invokestatic 69, 3) := by decide +kernel
theorem dX5_lookAtCells_54 : decode cX5_lookAtCells 54 = .ok (.putfield 28, 3) := by decide +kernel
theorem dX5_lookAtCells_57 : decode cX5_lookAtCells 57 = .ok (.goto 8, 3) := by decide +kernel
theorem dX5_lookAtCells_60 : decode cX5_lookAtCells 60 = .ok (.aload_n 0, 1) := by decide +kernel
theorem dX5_lookAtCells_61 : decode cX5_lookAtCells 61 = .ok (.iconst 1, 1) := by decide +kernel
theorem dX5_lookAtCells_62 : decode cX5_lookAtCells 62 = .ok (.putfield 15, 3) := by decide +kernel
theorem dX5_lookAtCells_65 : decode cX5_lookAtCells 65 = .ok (.iinc 2 1, 3) := by decide +kernel
theorem dX5_lookAtCells_68 : decode cX5_lookAtCells 68 = .ok (.goto (-66), 3) := by decide +kernel
theorem dX5_lookAtCells_71 : decode cX5_lookAtCells 71 = .ok (.return_, 1) := by decide +kernel
theorem dX5_allValid_0 : decode cX5_allValid 0 = .ok (.aload_n 0, 1) := by decide +kernel
theorem dX5_allValid_1 : decode cX5_allValid 1 = .ok (.getfield 9, 3) := by decide +kernel
theorem dX5_allValid_4 : decode cX5_allValid 4 = .ok (.ifCond .ne 14, 3) := by decide +kernel
theorem dX5_allValid_7 : decode cX5_allValid 7 = .ok (.aload_n 0, 1) := by decide +kernel
theorem dX5_allValid_8 : decode cX5_allValid 8 = .ok (.getfield 15, 3) := by decide +kernel
theorem dX5_allValid_11 : decode cX5_allValid 11 = .ok (.ifCond .ne 7, 3) := by decide +kernel
theorem dX5_allValid_14 : decode cX5_allValid 14 = .ok (.iconst 1, 1) := by decide +kernel
theorem dX5_allValid_15 : decode cX5_allValid 15 = .ok (.goto 4, 3) := by decide +kernel
theorem dX5_allValid_18 : decode cX5_allValid 18 = .ok (.iconst 0, 1) := by decide +kernel
theorem dX5_allValid_19 : decode cX5_allValid 19 = .ok (.ireturn, 1) := by decide +kernel
theorem dJ9_floorMod_7cf53_0 : decode cJ9_floorMod_7cf53 0 = .ok (.iload_n 0, 1) := by decide +kernel
theorem dJ9_floorMod_7cf53_1 : decode cJ9_floorMod_7cf53 1 = .ok (.iload_n 1, 1) := by decide +kernel
theorem dJ9_floorMod_7cf53_2 : decode cJ9_floorMod_7cf53 2 = .ok (.irem, 1) := by decide +kernel
theorem dJ9_floorMod_7cf53_3 : decode cJ9_floorMod_7cf53 3 = .ok (.istore_n 2, 1) := by decide +kernel
theorem dJ9_floorMod_7cf53_4 : decode cJ9_floorMod_7cf53 4 = .ok (.iload_n 0, 1) := by decide +kernel
theorem dJ9_floorMod_7cf53_5 : decode cJ9_floorMod_7cf53 5 = .ok (.iload_n 1, 1) := by decide +kernel
theorem dJ9_floorMod_7cf53_6 : decode cJ9_floorMod_7cf53 6 = .ok (.ixor, 1) := by decide +kernel
theorem dJ9_floorMod_7cf53_7 : decode cJ9_floorMod_7cf53 7 = .ok (.ifCond .ge 11, 3) := by decide +kernel
theorem dJ9_floorMod_7cf53_10 : decode cJ9_floorMod_7cf53 10 = .ok (.iload_n 2, 1) := by decide +kernel
theorem dJ9_floorMod_7cf53_11 : decode cJ9_floorMod_7cf53 11 = .ok (.ifCond .eq 7, 3) := by decide +kernel
theorem dJ9_floorMod_7cf53_14 : decode cJ9_floorMod_7cf53 14 = .ok (.iload_n 2, 1) := by decide +kernel
theorem dJ9_floorMod_7cf53_15 : decode cJ9_floorMod_7cf53 15 = .ok (.iload_n 1, 1) := by decide +kernel
theorem dJ9_floorMod_7cf53_16 : decode cJ9_floorMod_7cf53 16 = .ok (.iadd, 1) := by decide +kernel
theorem dJ9_floorMod_7cf53_17 : decode cJ9_floorMod_7cf53 17 = .ok (.ireturn, 1) := by decide +kernel
theorem dJ9_floorMod_7cf53_18 : decode cJ9_floorMod_7cf53 18 = .ok (.iload_n 2, 1) := by decide +kernel
theorem dJ9_floorMod_7cf53_19 : decode cJ9_floorMod_7cf53 19 = .ok (.ireturn, 1) := by decide +kernel
theorem dJ9_max_7cf53_0 : decode cJ9_max_7cf53 0 = .ok (.iload_n 0, 1) := by decide +kernel
theorem dJ9_max_7cf53_1 : decode cJ9_max_7cf53 1 = .ok (.iload_n 1, 1) := by decide +kernel
theorem dJ9_max_7cf53_2 : decode cJ9_max_7cf53 2 = .ok (.if_icmp .lt 7, 3) := by decide +kernel
theorem dJ9_max_7cf53_5 : decode cJ9_max_7cf53 5 = .ok (.iload_n 0, 1) := by decide +kernel
theorem dJ9_max_7cf53_6 : decode cJ9_max_7cf53 6 = .ok (.goto 4, 3) := by decide +kernel
theorem dJ9_max_7cf53_9 : decode cJ9_max_7cf53 9 = .ok (.iload_n 1, 1) := by decide +kernel
theorem dJ9_max_7cf53_10 : decode cJ9_max_7cf53 10 = .ok (.ireturn, 1) := by decide +kernel
theorem dJ9_max_f86c9_0 : decode cJ9_max_f86c9 0 = .ok (.lload_n 0, 1) := by decide +kernel
theorem dJ9_max_f86c9_1 : decode cJ9_max_f86c9 1 = .ok (.lload_n 2, 1) := by decide +kernel
theorem dJ9_max_f86c9_2 : decode cJ9_max_f86c9 2 = .ok (.lcmp, 1) := by decide +kernel
theorem dJ9_max_f86c9_3 : decode cJ9_max_f86c9 3 = .ok (.ifCond .lt 7, 3) := by decide +kernel
theorem dJ9_max_f86c9_6 : decode cJ9_max_f86c9 6 = .ok (.lload_n 0, 1) := by decide +kernel
theorem dJ9_max_f86c9_7 : decode cJ9_max_f86c9 7 = .ok (.goto 4, 3) := by decide +kernel
theorem dJ9_max_f86c9_10 : decode cJ9_max_f86c9 10 = .ok (.lload_n 2, 1) := by decide +kernel
theorem dJ9_max_f86c9_11 : decode cJ9_max_f86c9 11 = .ok (.lreturn, 1) := by decide +kernel
theorem dJ9_min_7cf53_0 : decode cJ9_min_7cf53 0 = .ok (.iload_n 0, 1) := by decide +kernel
theorem dJ9_min_7cf53_1 : decode cJ9_min_7cf53 1 = .ok (.iload_n 1, 1) := by decide +kernel
theorem dJ9_min_7cf53_2 : decode cJ9_min_7cf53 2 = .ok (.if_icmp .gt 7, 3) := by decide +kernel
theorem dJ9_min_7cf53_5 : decode cJ9_min_7cf53 5 = .ok (.iload_n 0, 1) := by decide +kernel
theorem dJ9_min_7cf53_6 : decode cJ9_min_7cf53 6 = .ok (.goto 4, 3) := by decide +kernel
theorem dJ9_min_7cf53_9 : decode cJ9_min_7cf53 9 = .ok (.iload_n 1, 1) := by decide +kernel
theorem dJ9_min_7cf53_10 : decode cJ9_min_7cf53 10 = .ok (.ireturn, 1) := by decide +kernel
theorem dJ9_min_f86c9_0 : decode cJ9_min_f86c9 0 = .ok (.lload_n 0, 1) := by decide +kernel
theorem dJ9_min_f86c9_1 : decode cJ9_min_f86c9 1 = .ok (.lload_n 2, 1) := by decide +kernel
theorem dJ9_min_f86c9_2 : decode cJ9_min_f86c9 2 = .ok (.lcmp, 1) := by decide +kernel
theorem dJ9_min_f86c9_3 : decode cJ9_min_f86c9 3 = .ok (.ifCond .gt 7, 3) := by decide +kernel
theorem dJ9_min_f86c9_6 : decode cJ9_min_f86c9 6 = .ok (.lload_n 0, 1) := by decide +kernel
theorem dJ9_min_f86c9_7 : decode cJ9_min_f86c9 7 = .ok (.goto 4, 3) := by decide +kernel
theorem dJ9_min_f86c9_10 : decode cJ9_min_f86c9 10 = .ok (.lload_n 2, 1) := by decide +kernel
theorem dJ9_min_f86c9_11 : decode cJ9_min_f86c9 11 = .ok (.lreturn, 1) := by decide +kernel
end
section
set_option maxRecDepth 20000 in
theorem ggX6_init_X6_nearest : GoodIn wsX6_init wsX6_nearest := goodIn_r _ [29, 30, 31, 32, 33, 34, 35, 36] (by decide +kernel) (by decide +kernel)
set_option maxRecDepth 20000 in
theorem gX6_init_X6_nearest : GoodIn wsX6_init (va_wsS RX6 7 yX6_nearest wsX6_nearest) := goodIn_app (goodIn_of _ (by decide +kernel)) ggX6_init_X6_nearest
set_option maxRecDepth 20000 in
theorem ggX6_init_X3_init : GoodIn wsX6_init wsX3_init := goodIn_r _ [38, 39, 2, 3, 40, 41, 42, 43, 44, 124, 125, 126, 127, 128, 129, 130, 131] (by decide +kernel) (by decide +kernel)
set_option maxRecDepth 20000 in
theorem gX6_init_X3_init_n19 : GoodIn wsX6_init (wsX3_init) := ggX6_init_X3_init
set_option maxRecDepth 20000 in
theorem ggX6_init_X5_init : GoodIn wsX6_init wsX5_init := goodIn_r _ [46, 47, 2, 3] (by decide +kernel) (by decide +kernel)
set_option maxRecDepth 20000 in
theorem gX6_init_X5_init_n29 : GoodIn wsX6_init (wsX5_init) := ggX6_init_X5_init
set_option maxRecDepth 20000 in
theorem ggX6_init_X0_init : GoodIn wsX6_init wsX0_init := goodIn_r _ [50, 51, 2, 3, 40, 52, 53, 139, 140, 141, 142] (by decide +kernel) (by decide +kernel)
set_option maxRecDepth 20000 in
theorem gX6_init_X0_init : GoodIn wsX6_init (wsX0_init) := ggX6_init_X0_init
set_option maxRecDepth 20000 in
theorem ggX6_init_X4_init : GoodIn wsX6_init wsX4_init := goodIn_r _ [55, 56, 2, 3] (by decide +kernel) (by decide +kernel)
set_option maxRecDepth 20000 in
theorem gX6_init_X4_init_n45 : GoodIn wsX6_init (wsX4_init) := ggX6_init_X4_init
set_option maxRecDepth 20000 in
theorem ggX6_init_X1_init : GoodIn wsX6_init wsX1_init := goodIn_r _ [59, 60, 2, 3, 61, 62, 63, 64, 145, 146, 147, 148, 149] (by decide +kernel) (by decide +kernel)
set_option maxRecDepth 20000 in
theorem gX6_init_X1_init : GoodIn wsX6_init (wsX1_init) := ggX6_init_X1_init
set_option maxRecDepth 20000 in
theorem ggX6_init_X6_beginAnew : GoodIn wsX6_init wsX6_beginAnew := goodIn_r _ [68, 69, 70, 71, 72, 73, 74, 75, 76, 77, 78, 5, 17, 21, 25, 79, 80, 81, 7, 82, 83, 84, 85, 86, 87, 88, 89, 90, 91, 16, 92, 52, 93, 94, 95, 96, 97, 20, 98, 99, 100, 101, 102, 103, 24, 104, 105, 106, 107, 108, 109, 110, 111, 112, 113, 114, 115, 116, 117, 118, 119, 120, 121, 122, 123, 124, 125, 126, 127, 128, 129, 130, 131, 139, 140, 141, 142, 143, 144, 145, 146, 147, 148, 149] (by decide +kernel) (by decide +kernel)
set_option maxRecDepth 20000 in
theorem gX6_init_X6_beginAnew : GoodIn wsX6_init (wsV RX6 57 RX6 yX6_beginAnew wsX6_beginAnew) := goodIn_app (goodIn_of _ (by decide +kernel)) ggX6_init_X6_beginAnew
theorem dX6_init_0 : decode cX6_init 0 = .ok (.aload_n 0, 1) := by decide +kernel
theorem dX6_init_1 : decode cX6_init 1 = .ok (.invokespecial 1, 3) := by decide +kernel
theorem dX6_init_4 : decode cX6_init 4 = .ok (.aload_n 0, 1) := by decide +kernel
theorem dX6_init_5 : decode cX6_init 5 = .ok (.iload_n 1, 1) := by decide +kernel
theorem dX6_init_6 : decode cX6_init 6 = .ok (.iconst 1, 1) := by decide +kernel
theorem dX6_init_7 : decode cX6_init 7 = .ok (.iconst 4, 1) := by decide +kernel
theorem dX6_init_8 : decode cX6_init 8 = .ok (.invokestatic 7, 3) := by decide +kernel
theorem dX6_init_11 : decode cX6_init 11 = .ok (.anewarray 13, 3) := by decide +kernel
theorem dX6_init_14 : decode cX6_init 14 = .ok (.putfield 15, 3) := by decide +kernel
theorem dX6_init_17 : decode cX6_init 17 = .ok (.iconst 0, 1) := by decide +kernel
theorem dX6_init_18 : decode cX6_init 18 = .ok (.istore 6, 2) := by decide +kernel
theorem dX6_init_20 : decode cX6_init 20 = .ok (.iload 6, 2) := by decide +kernel
theorem dX6_init_22 : decode cX6_init 22 = .ok (.aload_n 0, 1) := by decide +kernel
theorem dX6_init_23 : decode cX6_init 23 = .ok (.getfield 15, 3) := by decide +kernel
theorem dX6_init_26 : decode cX6_init 26 = .ok (.arraylength, 1) := by decide +kernel
theorem dX6_init_27 : decode cX6_init 27 = .ok (.if_icmp .ge 23, 3) := by decide +kernel
theorem dX6_init_30 : decode cX6_init 30 = .ok (.aload_n 0, 1) := by decide +kernel
theorem dX6_init_31 : decode cX6_init 31 = .ok (.getfield 15, 3) := by decide +kernel
theorem dX6_init_34 : decode cX6_init 34 = .ok (.iload 6, 2) := by decide +kernel
theorem dX6_init_36 : decode cX6_init 36 = .ok (.new 13, 3) := by decide +kernel
theorem dX6_init_39 : decode cX6_init 39 = .ok (.dup, 1) := by decide +kernel
theorem dX6_init_40 : decode cX6_init 40 = .ok (.invokespecial 19, 3) := by decide +kernel
theorem dX6_init_43 : decode cX6_init 43 = .ok (.aastore, 1) := by decide +kernel
theorem dX6_init_44 : decode cX6_init 44 = .ok (.iinc 6 1, 3) := by decide +kernel
theorem dX6_init_47 : decode cX6_init 47 = .ok (.goto (-27), 3) := by decide +kernel
theorem dX6_init_50 : decode cX6_init 50 = .ok (.aload_n 0, 1) := by decide +kernel
theorem dX6_init_51 : decode cX6_init 51 = .ok (.iload_n 3, 1) := by decide +kernel
theorem dX6_init_52 : decode cX6_init 52 = .ok (.iconst 1, 1) := by decide +kernel
theorem dX6_init_53 : decode cX6_init 53 = .ok (.sipush 4000, 3) := by decide +kernel
theorem dX6_init_56 : decode cX6_init 56 = .ok (.invokestatic 7, 3) := by decide +kernel
theorem dX6_init_59 : decode cX6_init 59 = .ok (.bipush 100, 2) := by decide +kernel
theorem dX6_init_61 : decode cX6_init 61 = .ok (.imul, 1) := by decide +kernel
theorem dX6_init_62 : decode cX6_init 62 = .ok (.putfield 20, 3) := by decide +kernel
theorem dX6_init_65 : decode cX6_init 65 = .ok (.aload_n 0, 1) := by decide +kernel
theorem dX6_init_66 : decode cX6_init 66 = .ok (.iload 5, 2) := by decide +kernel
theorem dX6_init_68 : decode cX6_init 68 = .ok (.iconst 1, 1) := by decide +kernel
theorem dX6_init_69 : decode cX6_init 69 = .ok (.bipush 50, 2) := by decide +kernel
theorem dX6_init_71 : decode cX6_init 71 = .ok (.invokestatic 7, 3) := by decide +kernel
theorem dX6_init_74 : decode cX6_init 74 = .ok (.putfield 24, 3) := by decide +kernel
theorem dX6_init_77 : decode cX6_init 77 = .ok (.aload_n 0, 1) := by decide +kernel
theorem dX6_init_78 : decode cX6_init 78 = .ok (.new 27, 3) := by decide +kernel
theorem dX6_init_81 : decode cX6_init 81 = .ok (.dup, 1) := by decide +kernel
theorem dX6_init_82 : decode cX6_init 82 = .ok (.invokespecial 29, 3) := by decide +kernel
theorem dX6_init_85 : decode cX6_init 85 = .ok (.putfield 30, 3) := by decide +kernel
theorem dX6_init_88 : decode cX6_init 88 = .ok (.aload_n 0, 1) := by decide +kernel
theorem dX6_init_89 : decode cX6_init 89 = .ok (.new 34, 3) := by decide +kernel
theorem dX6_init_92 : decode cX6_init 92 = .ok (.dup, 1) := by decide +kernel
theorem dX6_init_93 : decode cX6_init 93 = .ok (.iload 4, 2) := by decide +kernel
theorem dX6_init_95 : decode cX6_init 95 = .ok (.iconst 1, 1) := by decide +kernel
theorem dX6_init_96 : decode cX6_init 96 = .ok (.bipush 20, 2) := by decide +kernel
theorem dX6_init_98 : decode cX6_init 98 = .ok (.invokestatic 7, 3) := by decide +kernel
theorem dX6_init_101 : decode cX6_init 101 = .ok (.invokespecial 36, 3) := by decide +kernel
theorem dX6_init_104 : decode cX6_init 104 = .ok (.putfield 39, 3) := by decide +kernel
theorem dX6_init_107 : decode cX6_init 107 = .ok (.aload_n 0, 1) := by decide +kernel
theorem dX6_init_108 : decode cX6_init 108 = .ok (.new 43, 3) := by decide +kernel
theorem dX6_init_111 : decode cX6_init 111 = .ok (.dup, 1) := by decide +kernel
theorem dX6_init_112 : decode cX6_init 112 = .ok (.invokespecial 45, 3) := by decide +kernel
theorem dX6_init_115 : decode cX6_init 115 = .ok (.putfield 46, 3) := by decide +kernel
theorem dX6_init_118 : decode cX6_init 118 = .ok (.aload_n 0, 1) := by decide +kernel
theorem dX6_init_119 : decode cX6_init 119 = .ok (.new 50, 3) := by decide +kernel
theorem dX6_init_122 : decode cX6_init 122 = .ok (.dup, 1) := by decide +kernel
theorem dX6_init_123 : decode cX6_init 123 = .ok (.iload_n 2, 1) := by decide +kernel
theorem dX6_init_124 : decode cX6_init 124 = .ok (.iconst 2, 1) := by decide +kernel
theorem dX6_init_125 : decode cX6_init 125 = .ok (.bipush 16, 2) := by decide +kernel
theorem dX6_init_127 : decode cX6_init 127 = .ok (.invokestatic 7, 3) := by decide +kernel
theorem dX6_init_130 : decode cX6_init 130 = .ok (.invokespecial 52, 3) := by decide +kernel
theorem dX6_init_133 : decode cX6_init 133 = .ok (.putfield 53, 3) := by decide +kernel
theorem dX6_init_136 : decode cX6_init 136 = .ok (.aload_n 0, 1) := by decide +kernel
theorem dX6_init_137 : decode cX6_init 137 = .ok (.invokevirtual 57, 3) := by decide +kernel
theorem dX6_init_140 : decode cX6_init 140 = .ok (.return_, 1) := by decide +kernel
theorem dX6_chips_0 : decode cX6_chips 0 = .ok (.aload_n 0, 1) := by decide +kernel
theorem dX6_chips_1 : decode cX6_chips 1 = .ok (.getfield 15, 3) := by decide +kernel
theorem dX6_chips_4 : decode cX6_chips 4 = .ok (.arraylength, 1) := by decide +kernel
theorem dX6_chips_5 : decode cX6_chips 5 = .ok (.ireturn, 1) := by decide +kernel
set_option maxRecDepth 20000 in
theorem ggX6_seal_X2_ofReply : GoodIn wsX6_seal wsX2_ofReply := goodIn_r _ [4, 5, 6, 3, 7] (by decide +kernel) (by decide +kernel)
set_option maxRecDepth 20000 in
theorem gX6_seal_X2_ofReply : GoodIn wsX6_seal (va_wsS RX6 60 yX2_ofReply wsX2_ofReply) := goodIn_app (goodIn_of _ (by decide +kernel)) ggX6_seal_X2_ofReply
theorem dX6_seal_0 : decode cX6_seal 0 = .ok (.lload_n 1, 1) := by decide +kernel
theorem dX6_seal_1 : decode cX6_seal 1 = .ok (.lload_n 3, 1) := by decide +kernel
theorem dX6_seal_2 : decode cX6_seal 2 = .ok (.invokestatic 60, 3) := by decide +kernel
theorem dX6_seal_5 : decode cX6_seal 5 = .ok (.ireturn, 1) := by decide +kernel
set_option maxRecDepth 20000 in
theorem ggX6_reply_X6_needChip : GoodIn wsX6_reply wsX6_needChip := goodIn_ca (goodIn_r _ [8, 2, 9, 10, 7, 11, 12, 13, 47, 48, 49, 50, 51, 52, 53, 54, 55, 56, 57, 58, 59, 60, 61, 62, 63] (by decide +kernel) (by decide +kernel)) (goodIn_sub (fun _ h => List.mem_cons_of_mem _ (List.mem_append_left _ (List.mem_append_right _ h))) (by decide +kernel))
set_option maxRecDepth 20000 in
theorem gX6_reply_X6_needChip : GoodIn wsX6_reply (wsV RX6 66 RX6 yX6_needChip wsX6_needChip) := goodIn_app (goodIn_of _ (by decide +kernel)) ggX6_reply_X6_needChip
set_option maxRecDepth 20000 in
theorem ggX6_reply_X6_needPower : GoodIn wsX6_reply wsX6_needPower := goodIn_ca (goodIn_r _ [17, 18, 19, 20, 47, 48, 49, 50, 51, 52, 53, 54, 55, 56, 57, 58, 59, 60, 61, 62, 63] (by decide +kernel) (by decide +kernel)) (goodIn_sub (fun _ h => List.mem_cons_of_mem _ (List.mem_append_right _ h)) (by decide +kernel))
set_option maxRecDepth 20000 in
theorem gX6_reply_X6_needPower : GoodIn wsX6_reply (wsV RX6 69 RX6 yX6_needPower wsX6_needPower) := goodIn_app (goodIn_of _ (by decide +kernel)) ggX6_reply_X6_needPower
set_option maxRecDepth 20000 in
theorem ggX6_reply_X2_ofReply : GoodIn wsX6_reply wsX2_ofReply := goodIn_r _ [24, 25, 26, 23, 27] (by decide +kernel) (by decide +kernel)
set_option maxRecDepth 20000 in
theorem gX6_reply_X2_ofReply : GoodIn wsX6_reply (va_wsS RX6 60 yX2_ofReply wsX2_ofReply) := goodIn_app (goodIn_of _ (by decide +kernel)) ggX6_reply_X2_ofReply
set_option maxRecDepth 20000 in
theorem ggX6_reply_X3_take : GoodIn wsX6_reply wsX3_take := goodIn_r _ [32, 33, 34, 35, 36, 37, 38, 39, 40, 41, 31, 42, 43, 44, 45, 46, 64, 65, 66, 67, 68, 69, 70, 71] (by decide +kernel) (by decide +kernel)
set_option maxRecDepth 20000 in
theorem gX6_reply_X3_take : GoodIn wsX6_reply (wsV RX6 78 RX3 yX3_take wsX3_take) := goodIn_app (goodIn_of _ (by decide +kernel)) ggX6_reply_X3_take
theorem dX6_reply_0 : decode cX6_reply 0 = .ok (.aload_n 0, 1) := by decide +kernel
theorem dX6_reply_1 : decode cX6_reply 1 = .ok (.iload_n 1, 1) := by decide +kernel
theorem dX6_reply_2 : decode cX6_reply 2 = .ok (.invokevirtual 66, 3) := by decide +kernel
theorem dX6_reply_5 : decode cX6_reply 5 = .ok (.aload_n 0, 1) := by decide +kernel
theorem dX6_reply_6 : decode cX6_reply 6 = .ok (.invokevirtual 69, 3) := by decide +kernel
theorem dX6_reply_9 : decode cX6_reply 9 = .ok (.lload 4, 2) := by decide +kernel
theorem dX6_reply_11 : decode cX6_reply 11 = .ok (.ldc2_w 72, 3) := by decide +kernel
theorem dX6_reply_14 : decode cX6_reply 14 = .ok (.land, 1) := by decide +kernel
theorem dX6_reply_15 : decode cX6_reply 15 = .ok (.lload_n 2, 1) := by decide +kernel
theorem dX6_reply_16 : decode cX6_reply 16 = .ok (.lload 4, 2) := by decide +kernel
theorem dX6_reply_18 : decode cX6_reply 18 = .ok (.invokestatic 60, 3) := by decide +kernel
theorem dX6_reply_21 : decode cX6_reply 21 = .ok (.i2l, 1) := by decide +kernel
theorem dX6_reply_22 : decode cX6_reply 22 = .ok (.lcmp, 1) := by decide +kernel
theorem dX6_reply_23 : decode cX6_reply 23 = .ok (.ifCond .eq 5, 3) := by decide +kernel
theorem dX6_reply_26 : decode cX6_reply 26 = .ok (.iconst 0, 1) := by decide +kernel
theorem dX6_reply_27 : decode cX6_reply 27 = .ok (.ireturn, 1) := by decide +kernel
theorem dX6_reply_28 : decode cX6_reply 28 = .ok (.aload_n 0, 1) := by decide +kernel
theorem dX6_reply_29 : decode cX6_reply 29 = .ok (.getfield 15, 3) := by decide +kernel
theorem dX6_reply_32 : decode cX6_reply 32 = .ok (.iload_n 1, 1) := by decide +kernel
theorem dX6_reply_33 : decode cX6_reply 33 = .ok (.aaload, 1) := by decide +kernel
theorem dX6_reply_34 : decode cX6_reply 34 = .ok (.lload_n 2, 1) := by decide +kernel
theorem dX6_reply_35 : decode cX6_reply 35 = .ok (.lload 4, 2) := by decide +kernel
theorem dX6_reply_37 : decode cX6_reply 37 = .ok (.aload_n 0, 1) := by decide +kernel
theorem dX6_reply_38 : decode cX6_reply 38 = .ok (.getfield 74, 3) := by decide +kernel
theorem dX6_reply_41 : decode cX6_reply 41 = .ok (.invokevirtual 78, 3) := by decide +kernel
theorem dX6_reply_44 : decode cX6_reply 44 = .ok (.iconst 1, 1) := by decide +kernel
theorem dX6_reply_45 : decode cX6_reply 45 = .ok (.ireturn, 1) := by decide +kernel
set_option maxRecDepth 20000 in
theorem ggX6_current_X6_needAmount : GoodIn wsX6_current wsX6_needAmount := goodIn_ca (goodIn_r _ [5, 6, 7, 8] (by decide +kernel) (by decide +kernel)) (goodIn_sub (fun _ h => List.mem_cons_of_mem _ (List.mem_append_left _ (List.mem_append_right _ h))) (by decide +kernel))
set_option maxRecDepth 20000 in
theorem gX6_current_X6_needAmount : GoodIn wsX6_current (va_wsS RX6 82 yX6_needAmount wsX6_needAmount) := goodIn_app (goodIn_of _ (by decide +kernel)) ggX6_current_X6_needAmount
set_option maxRecDepth 20000 in
theorem ggX6_current_X6_needPower : GoodIn wsX6_current wsX6_needPower := goodIn_ca (goodIn_r _ [12, 13, 14, 15, 16, 17, 18, 19, 20, 21, 22, 23, 24, 25, 26, 27, 28, 29, 30, 31, 32] (by decide +kernel) (by decide +kernel)) (goodIn_sub (fun _ h => List.mem_cons_of_mem _ (List.mem_append_right _ h)) (by decide +kernel))
set_option maxRecDepth 20000 in
theorem gX6_current_X6_needPower : GoodIn wsX6_current (wsV RX6 69 RX6 yX6_needPower wsX6_needPower) := goodIn_app (goodIn_of _ (by decide +kernel)) ggX6_current_X6_needPower
theorem dX6_current_0 : decode cX6_current 0 = .ok (.dload_n 1, 1) := by decide +kernel
theorem dX6_current_1 : decode cX6_current 1 = .ok (.sipush (-2000), 3) := by decide +kernel
theorem dX6_current_4 : decode cX6_current 4 = .ok (.sipush 2000, 3) := by decide +kernel
theorem dX6_current_7 : decode cX6_current 7 = .ok (.invokestatic 82, 3) := by decide +kernel
theorem dX6_current_10 : decode cX6_current 10 = .ok (.aload_n 0, 1) := by decide +kernel
theorem dX6_current_11 : decode cX6_current 11 = .ok (.invokevirtual 69, 3) := by decide +kernel
theorem dX6_current_14 : decode cX6_current 14 = .ok (.aload_n 0, 1) := by decide +kernel
theorem dX6_current_15 : decode cX6_current 15 = .ok (.dload_n 1, 1) := by decide +kernel
theorem dX6_current_16 : decode cX6_current 16 = .ok (.putfield 74, 3) := by decide +kernel
theorem dX6_current_19 : decode cX6_current 19 = .ok (.return_, 1) := by decide +kernel
set_option maxRecDepth 20000 in
theorem ggX6_warm_X6_needChip : GoodIn wsX6_warm wsX6_needChip := goodIn_ca (goodIn_r _ [7, 1, 8, 9, 6, 10, 11, 12, 26, 27, 28, 29, 30, 31, 32, 33, 34, 35, 36, 37, 38, 39, 40, 41, 42] (by decide +kernel) (by decide +kernel)) (goodIn_sub (fun _ h => List.mem_cons_of_mem _ (List.mem_append_left _ (List.mem_append_left _ (List.mem_append_right _ h)))) (by decide +kernel))
set_option maxRecDepth 20000 in
theorem gX6_warm_X6_needChip : GoodIn wsX6_warm (wsV RX6 66 RX6 yX6_needChip wsX6_needChip) := goodIn_app (goodIn_of _ (by decide +kernel)) ggX6_warm_X6_needChip
set_option maxRecDepth 20000 in
theorem ggX6_warm_X6_needAmount : GoodIn wsX6_warm wsX6_needAmount := goodIn_ca (goodIn_r _ [15, 16, 17, 18] (by decide +kernel) (by decide +kernel)) (goodIn_sub (fun _ h => List.mem_cons_of_mem _ (List.mem_append_left _ (List.mem_append_right _ h))) (by decide +kernel))
set_option maxRecDepth 20000 in
theorem gX6_warm_X6_needAmount : GoodIn wsX6_warm (va_wsS RX6 82 yX6_needAmount wsX6_needAmount) := goodIn_app (goodIn_of _ (by decide +kernel)) ggX6_warm_X6_needAmount
set_option maxRecDepth 20000 in
theorem ggX6_warm_X6_needPower : GoodIn wsX6_warm wsX6_needPower := goodIn_ca (goodIn_r _ [22, 23, 24, 25, 26, 27, 28, 29, 30, 31, 32, 33, 34, 35, 36, 37, 38, 39, 40, 41, 42] (by decide +kernel) (by decide +kernel)) (goodIn_sub (fun _ h => List.mem_cons_of_mem _ (List.mem_append_right _ h)) (by decide +kernel))
set_option maxRecDepth 20000 in
theorem gX6_warm_X6_needPower : GoodIn wsX6_warm (wsV RX6 69 RX6 yX6_needPower wsX6_needPower) := goodIn_app (goodIn_of _ (by decide +kernel)) ggX6_warm_X6_needPower
theorem dX6_warm_0 : decode cX6_warm 0 = .ok (.aload_n 0, 1) := by decide +kernel
theorem dX6_warm_1 : decode cX6_warm 1 = .ok (.iload_n 1, 1) := by decide +kernel
theorem dX6_warm_2 : decode cX6_warm 2 = .ok (.invokevirtual 66, 3) := by decide +kernel
theorem dX6_warm_5 : decode cX6_warm 5 = .ok (.dload_n 2, 1) := by decide +kernel
theorem dX6_warm_6 : decode cX6_warm 6 = .ok (.bipush (-100), 2) := by decide +kernel
theorem dX6_warm_8 : decode cX6_warm 8 = .ok (.sipush 200, 3) := by decide +kernel
theorem dX6_warm_11 : decode cX6_warm 11 = .ok (.invokestatic 82, 3) := by decide +kernel
theorem dX6_warm_14 : decode cX6_warm 14 = .ok (.aload_n 0, 1) := by decide +kernel
theorem dX6_warm_15 : decode cX6_warm 15 = .ok (.invokevirtual 69, 3) := by decide +kernel
theorem dX6_warm_18 : decode cX6_warm 18 = .ok (.aload_n 0, 1) := by decide +kernel
theorem dX6_warm_19 : decode cX6_warm 19 = .ok (.getfield 15, 3) := by decide +kernel
theorem dX6_warm_22 : decode cX6_warm 22 = .ok (.iload_n 1, 1) := by decide +kernel
theorem dX6_warm_23 : decode cX6_warm 23 = .ok (.aaload, 1) := by decide +kernel
theorem dX6_warm_24 : decode cX6_warm 24 = .ok (.dload_n 2, 1) := by decide +kernel
theorem dX6_warm_25 : decode cX6_warm 25 = .ok (.putfield 86, 3) := by decide +kernel
theorem dX6_warm_28 : decode cX6_warm 28 = .ok (.return_, 1) := by decide +kernel
set_option maxRecDepth 20000 in
theorem ggX6_bus_X6_needWhole : GoodIn wsX6_bus wsX6_needWhole := goodIn_ca (goodIn_r _ [6, 7, 8] (by decide +kernel) (by decide +kernel)) (goodIn_sub (fun _ h => List.mem_cons_of_mem _ (List.mem_append_left _ (List.mem_append_right _ h))) (by decide +kernel))
set_option maxRecDepth 20000 in
theorem gX6_bus_X6_needWhole : GoodIn wsX6_bus (va_wsS RX6 90 yX6_needWhole wsX6_needWhole) := goodIn_app (goodIn_of _ (by decide +kernel)) ggX6_bus_X6_needWhole
set_option maxRecDepth 20000 in
theorem ggX6_bus_X6_needPower : GoodIn wsX6_bus wsX6_needPower := goodIn_ca (goodIn_r _ [12, 13, 14, 15, 16, 17, 18, 19, 20, 21, 22, 23, 24, 25, 26, 27, 28, 29, 30, 31, 32] (by decide +kernel) (by decide +kernel)) (goodIn_sub (fun _ h => List.mem_cons_of_mem _ (List.mem_append_right _ h)) (by decide +kernel))
set_option maxRecDepth 20000 in
theorem gX6_bus_X6_needPower : GoodIn wsX6_bus (wsV RX6 69 RX6 yX6_needPower wsX6_needPower) := goodIn_app (goodIn_of _ (by decide +kernel)) ggX6_bus_X6_needPower
theorem dX6_bus_0 : decode cX6_bus 0 = .ok (.iload_n 1, 1) := by decide +kernel
theorem dX6_bus_1 : decode cX6_bus 1 = .ok (.iconst 0, 1) := by decide +kernel
theorem dX6_bus_2 : decode cX6_bus 2 = .ok (.ldc 89, 2) := by decide +kernel
theorem dX6_bus_4 : decode cX6_bus 4 = .ok (.invokestatic 90, 3) := by decide +kernel
theorem dX6_bus_7 : decode cX6_bus 7 = .ok (.aload_n 0, 1) := by decide +kernel
theorem dX6_bus_8 : decode cX6_bus 8 = .ok (.invokevirtual 69, 3) := by decide +kernel
theorem dX6_bus_11 : decode cX6_bus 11 = .ok (.aload_n 0, 1) := by decide +kernel
theorem dX6_bus_12 : decode cX6_bus 12 = .ok (.iload_n 1, 1) := by decide +kernel
theorem dX6_bus_13 : decode cX6_bus 13 = .ok (.putfield 94, 3) := by decide +kernel
theorem dX6_bus_16 : decode cX6_bus 16 = .ok (.return_, 1) := by decide +kernel
set_option maxRecDepth 20000 in
theorem ggX6_want_X6_needPower : GoodIn wsX6_want wsX6_needPower := goodIn_ca (goodIn_r _ [6, 7, 8, 9, 10, 11, 12, 13, 14, 15, 16, 17, 18, 19, 20, 21, 22, 23, 24, 25, 26] (by decide +kernel) (by decide +kernel)) (goodIn_sub (fun _ h => List.mem_cons_of_mem _ (List.mem_append_right _ h)) (by decide +kernel))
set_option maxRecDepth 20000 in
theorem gX6_want_X6_needPower : GoodIn wsX6_want (wsV RX6 69 RX6 yX6_needPower wsX6_needPower) := goodIn_app (goodIn_of _ (by decide +kernel)) ggX6_want_X6_needPower
theorem dX6_want_0 : decode cX6_want 0 = .ok (.aload_n 0, 1) := by decide +kernel
theorem dX6_want_1 : decode cX6_want 1 = .ok (.invokevirtual 69, 3) := by decide +kernel
theorem dX6_want_4 : decode cX6_want 4 = .ok (.aload_n 0, 1) := by decide +kernel
theorem dX6_want_5 : decode cX6_want 5 = .ok (.iload_n 1, 1) := by decide +kernel
theorem dX6_want_6 : decode cX6_want 6 = .ok (.putfield 97, 3) := by decide +kernel
theorem dX6_want_9 : decode cX6_want 9 = .ok (.return_, 1) := by decide +kernel
set_option maxRecDepth 20000 in
theorem ggX6_set_X6_needAmount : GoodIn wsX6_set wsX6_needAmount := goodIn_ca (goodIn_r _ [6, 7, 8, 9] (by decide +kernel) (by decide +kernel)) (goodIn_sub (fun _ h => List.mem_cons_of_mem _ (List.mem_append_left _ (List.mem_append_right _ h))) (by decide +kernel))
set_option maxRecDepth 20000 in
theorem gX6_set_X6_needAmount : GoodIn wsX6_set (va_wsS RX6 82 yX6_needAmount wsX6_needAmount) := goodIn_app (goodIn_of _ (by decide +kernel)) ggX6_set_X6_needAmount
set_option maxRecDepth 20000 in
theorem ggX6_set_X6_needPower : GoodIn wsX6_set wsX6_needPower := goodIn_ca (goodIn_r _ [13, 14, 15, 16, 17, 18, 19, 20, 21, 22, 23, 24, 25, 26, 27, 28, 29, 30, 31, 32, 33] (by decide +kernel) (by decide +kernel)) (goodIn_sub (fun _ h => List.mem_cons_of_mem _ (List.mem_append_right _ h)) (by decide +kernel))
set_option maxRecDepth 20000 in
theorem gX6_set_X6_needPower : GoodIn wsX6_set (wsV RX6 69 RX6 yX6_needPower wsX6_needPower) := goodIn_app (goodIn_of _ (by decide +kernel)) ggX6_set_X6_needPower
theorem dX6_set_0 : decode cX6_set 0 = .ok (.dload_n 1, 1) := by decide +kernel
theorem dX6_set_1 : decode cX6_set 1 = .ok (.iconst 0, 1) := by decide +kernel
theorem dX6_set_2 : decode cX6_set 2 = .ok (.aload_n 0, 1) := by decide +kernel
theorem dX6_set_3 : decode cX6_set 3 = .ok (.getfield 20, 3) := by decide +kernel
theorem dX6_set_6 : decode cX6_set 6 = .ok (.invokestatic 82, 3) := by decide +kernel
theorem dX6_set_9 : decode cX6_set 9 = .ok (.aload_n 0, 1) := by decide +kernel
theorem dX6_set_10 : decode cX6_set 10 = .ok (.invokevirtual 69, 3) := by decide +kernel
theorem dX6_set_13 : decode cX6_set 13 = .ok (.aload_n 0, 1) := by decide +kernel
theorem dX6_set_14 : decode cX6_set 14 = .ok (.dload_n 1, 1) := by decide +kernel
theorem dX6_set_15 : decode cX6_set 15 = .ok (.putfield 101, 3) := by decide +kernel
theorem dX6_set_18 : decode cX6_set 18 = .ok (.return_, 1) := by decide +kernel
set_option maxRecDepth 20000 in
theorem ggX6_tick_X6_needWhole : GoodIn wsX6_tick wsX6_needWhole := goodIn_ca (goodIn_r _ [7, 8, 9] (by decide +kernel) (by decide +kernel)) (goodIn_sub (fun _ h => List.mem_cons_of_mem _ (List.mem_append_left _ (List.mem_append_right _ h))) (by decide +kernel))
set_option maxRecDepth 20000 in
theorem gX6_tick_X6_needWhole : GoodIn wsX6_tick (va_wsS RX6 90 yX6_needWhole wsX6_needWhole) := goodIn_app (goodIn_of _ (by decide +kernel)) ggX6_tick_X6_needWhole
set_option maxRecDepth 20000 in
theorem ggX6_tick_X6_needPower : GoodIn wsX6_tick wsX6_needPower := goodIn_ca (goodIn_r _ [13, 14, 15, 1, 243, 244, 245, 246, 247, 248, 249, 250, 251, 252, 253, 254, 255, 256, 257, 258, 259] (by decide +kernel) (by decide +kernel)) (goodIn_sub (fun _ h => List.mem_cons_of_mem _ (List.mem_append_right _ h)) (by decide +kernel))
set_option maxRecDepth 20000 in
theorem gX6_tick_X6_needPower : GoodIn wsX6_tick (wsV RX6 69 RX6 yX6_needPower wsX6_needPower) := goodIn_app (goodIn_of _ (by decide +kernel)) ggX6_tick_X6_needPower
set_option maxRecDepth 20000 in
theorem ggX6_tick_X6_passOneTick : GoodIn wsX6_tick wsX6_passOneTick := goodIn_r _ [19, 20, 21, 22, 23, 2, 24, 25, 26, 27, 28, 29, 30, 31, 32, 33, 34, 35, 36, 37, 38, 39, 40, 41, 42, 43, 44, 45, 46, 47, 48, 49, 50, 51, 52, 53, 54, 55, 56, 57, 58, 59, 60, 61, 62, 63, 64, 65, 66, 67, 68, 69, 70, 71, 72, 73, 74, 75, 76, 77, 78, 79, 80, 81, 82, 83, 84, 6, 85, 86, 87, 88, 89, 90, 91, 92, 93, 94, 95, 96, 97, 98, 99, 100, 101, 102, 103, 104, 105, 106, 107, 108, 109, 110, 111, 112, 113, 114, 115, 116, 117, 118, 119, 120, 121, 122, 123, 124, 125, 126, 127, 128, 129, 130, 131, 132, 133, 134, 135, 136, 137, 138, 139, 140, 141, 142, 143, 144, 145, 146, 147, 148, 149, 150, 151, 152, 153, 154, 155, 156, 157, 158, 159, 160, 161, 162, 163, 164, 165, 166, 167, 168, 169, 170, 171, 172, 173, 174, 175, 176, 177, 178, 179, 180, 181, 182, 183, 184, 185, 186, 187, 188, 189, 190, 191, 192, 193, 194, 195, 196, 197, 3, 198, 199, 200, 201, 202, 203, 204, 205, 206, 207, 208, 209, 210, 211, 1, 212, 213, 214, 215, 216, 217, 218, 219, 220, 221, 222, 223, 224, 225, 226, 227, 228, 229, 230, 231, 232, 233, 234, 235, 236, 237, 238, 239, 240, 241, 242, 243, 244, 245, 246, 247, 248, 249, 250, 251, 252, 253, 254, 255, 256, 257, 258, 259, 262, 263, 264, 265, 266, 267, 268, 269, 270, 271, 272, 273, 274, 275, 276, 277, 278, 279, 280, 260, 261, 281, 282, 283, 284, 285] (by decide +kernel) (by decide +kernel)
set_option maxRecDepth 20000 in
theorem gX6_tick_X6_passOneTick : GoodIn wsX6_tick (wsV RX6 107 RX6 yX6_passOneTick wsX6_passOneTick) := goodIn_app (goodIn_of _ (by decide +kernel)) ggX6_tick_X6_passOneTick
theorem dX6_tick_0 : decode cX6_tick 0 = .ok (.iload_n 1, 1) := by decide +kernel
theorem dX6_tick_1 : decode cX6_tick 1 = .ok (.iconst 1, 1) := by decide +kernel
theorem dX6_tick_2 : decode cX6_tick 2 = .ok (.bipush 100, 2) := by decide +kernel
theorem dX6_tick_4 : decode cX6_tick 4 = .ok (.invokestatic 90, 3) := by decide +kernel
theorem dX6_tick_7 : decode cX6_tick 7 = .ok (.aload_n 0, 1) := by decide +kernel
theorem dX6_tick_8 : decode cX6_tick 8 = .ok (.invokevirtual 69, 3) := by decide +kernel
theorem dX6_tick_11 : decode cX6_tick 11 = .ok (.iconst 0, 1) := by decide +kernel
theorem dX6_tick_12 : decode cX6_tick 12 = .ok (.istore_n 2, 1) := by decide +kernel
theorem dX6_tick_13 : decode cX6_tick 13 = .ok (.iload_n 2, 1) := by decide +kernel
theorem dX6_tick_14 : decode cX6_tick 14 = .ok (.iload_n 1, 1) := by decide +kernel
theorem dX6_tick_15 : decode cX6_tick 15 = .ok (.if_icmp .ge 20, 3) := by decide +kernel
theorem dX6_tick_18 : decode cX6_tick 18 = .ok (.aload_n 0, 1) := by decide +kernel
theorem dX6_tick_19 : decode cX6_tick 19 = .ok (.getfield 104, 3) := by decide +kernel
theorem dX6_tick_22 : decode cX6_tick 22 = .ok (.ifCond .ne 13, 3) := by decide +kernel
theorem dX6_tick_25 : decode cX6_tick 25 = .ok (.aload_n 0, 1) := by decide +kernel
theorem dX6_tick_26 : decode cX6_tick 26 = .ok (.invokevirtual 107, 3) := by decide +kernel
theorem dX6_tick_29 : decode cX6_tick 29 = .ok (.iinc 2 1, 3) := by decide +kernel
theorem dX6_tick_32 : decode cX6_tick 32 = .ok (.goto (-19), 3) := by decide +kernel
theorem dX6_tick_35 : decode cX6_tick 35 = .ok (.aload_n 0, 1) := by decide +kernel
theorem dX6_tick_36 : decode cX6_tick 36 = .ok (.getfield 46, 3) := by decide +kernel
theorem dX6_tick_39 : decode cX6_tick 39 = .ok (.getfield 110, 3) := by decide +kernel
theorem dX6_tick_42 : decode cX6_tick 42 = .ok (.ireturn, 1) := by decide +kernel
set_option maxRecDepth 20000 in
theorem ggX6_reset_X6_needIndex : GoodIn wsX6_reset wsX6_needIndex := goodIn_ca (goodIn_r _ [7, 8, 9] (by decide +kernel) (by decide +kernel)) (goodIn_sub (fun _ h => List.mem_cons_of_mem _ (List.mem_append_left _ (List.mem_append_right _ h))) (by decide +kernel))
set_option maxRecDepth 20000 in
theorem gX6_reset_X6_needIndex : GoodIn wsX6_reset (va_wsS RX6 113 yX6_needIndex wsX6_needIndex) := goodIn_app (goodIn_of _ (by decide +kernel)) ggX6_reset_X6_needIndex
set_option maxRecDepth 20000 in
theorem ggX6_reset_X6_needPower : GoodIn wsX6_reset wsX6_needPower := goodIn_ca (goodIn_r _ [13, 14, 15, 16, 28, 29, 30, 31, 32, 33, 34, 35, 36, 37, 38, 39, 40, 41, 42, 43, 44] (by decide +kernel) (by decide +kernel)) (goodIn_sub (fun _ h => List.mem_cons_of_mem _ (List.mem_append_right _ h)) (by decide +kernel))
set_option maxRecDepth 20000 in
theorem gX6_reset_X6_needPower : GoodIn wsX6_reset (wsV RX6 69 RX6 yX6_needPower wsX6_needPower) := goodIn_app (goodIn_of _ (by decide +kernel)) ggX6_reset_X6_needPower
set_option maxRecDepth 20000 in
theorem ggX6_reset_X0_dismiss : GoodIn wsX6_reset wsX0_dismiss := goodIn_r _ [21, 22, 23, 24, 25, 26, 20, 27, 47, 48, 49, 50] (by decide +kernel) (by decide +kernel)
set_option maxRecDepth 20000 in
theorem gX6_reset_X0_dismiss : GoodIn wsX6_reset (wsV RX6 117 RX0 yX0_dismiss wsX0_dismiss) := goodIn_app (goodIn_of _ (by decide +kernel)) ggX6_reset_X0_dismiss
theorem dX6_reset_0 : decode cX6_reset 0 = .ok (.iload_n 1, 1) := by decide +kernel
theorem dX6_reset_1 : decode cX6_reset 1 = .ok (.bipush 9, 2) := by decide +kernel
theorem dX6_reset_3 : decode cX6_reset 3 = .ok (.invokestatic 113, 3) := by decide +kernel
theorem dX6_reset_6 : decode cX6_reset 6 = .ok (.aload_n 0, 1) := by decide +kernel
theorem dX6_reset_7 : decode cX6_reset 7 = .ok (.invokevirtual 69, 3) := by decide +kernel
theorem dX6_reset_10 : decode cX6_reset 10 = .ok (.aload_n 0, 1) := by decide +kernel
theorem dX6_reset_11 : decode cX6_reset 11 = .ok (.getfield 39, 3) := by decide +kernel
theorem dX6_reset_14 : decode cX6_reset 14 = .ok (.iload_n 1, 1) := by decide +kernel
theorem dX6_reset_15 : decode cX6_reset 15 = .ok (.aload_n 0, 1) := by decide +kernel
theorem dX6_reset_16 : decode cX6_reset 16 = .ok (.getfield 46, 3) := by decide +kernel
theorem dX6_reset_19 : decode cX6_reset 19 = .ok (.getfield 110, 3) := by decide +kernel
theorem dX6_reset_22 : decode cX6_reset 22 = .ok (.ifCond .ne 7, 3) := by decide +kernel
theorem dX6_reset_25 : decode cX6_reset 25 = .ok (.iconst 1, 1) := by decide +kernel
theorem dX6_reset_26 : decode cX6_reset 26 = .ok (.goto 4, 3) := by decide +kernel
theorem dX6_reset_29 : decode cX6_reset 29 = .ok (.iconst 0, 1) := by decide +kernel
theorem dX6_reset_30 : decode cX6_reset 30 = .ok (.invokevirtual 117, 3) := by decide +kernel
theorem dX6_reset_33 : decode cX6_reset 33 = .ok (.ireturn, 1) := by decide +kernel
set_option maxRecDepth 20000 in
theorem ggX6_cut_X6_needWhole : GoodIn wsX6_cut wsX6_needWhole := goodIn_ca (goodIn_r _ [6, 7, 8] (by decide +kernel) (by decide +kernel)) (goodIn_sub (fun _ h => List.mem_cons_of_mem _ (List.mem_append_left _ (List.mem_append_right _ h))) (by decide +kernel))
set_option maxRecDepth 20000 in
theorem gX6_cut_X6_needWhole : GoodIn wsX6_cut (va_wsS RX6 90 yX6_needWhole wsX6_needWhole) := goodIn_app (goodIn_of _ (by decide +kernel)) ggX6_cut_X6_needWhole
set_option maxRecDepth 20000 in
theorem ggX6_cut_X6_needPower : GoodIn wsX6_cut wsX6_needPower := goodIn_ca (goodIn_r _ [12, 13, 14, 15, 16, 17, 18, 19, 20, 21, 22, 23, 24, 25, 26, 27, 28, 29, 30, 31, 32] (by decide +kernel) (by decide +kernel)) (goodIn_sub (fun _ h => List.mem_cons_of_mem _ (List.mem_append_right _ h)) (by decide +kernel))
set_option maxRecDepth 20000 in
theorem gX6_cut_X6_needPower : GoodIn wsX6_cut (wsV RX6 69 RX6 yX6_needPower wsX6_needPower) := goodIn_app (goodIn_of _ (by decide +kernel)) ggX6_cut_X6_needPower
theorem dX6_cut_0 : decode cX6_cut 0 = .ok (.iload_n 1, 1) := by decide +kernel
theorem dX6_cut_1 : decode cX6_cut 1 = .ok (.iconst 0, 1) := by decide +kernel
theorem dX6_cut_2 : decode cX6_cut 2 = .ok (.bipush 32, 2) := by decide +kernel
theorem dX6_cut_4 : decode cX6_cut 4 = .ok (.invokestatic 90, 3) := by decide +kernel
theorem dX6_cut_7 : decode cX6_cut 7 = .ok (.aload_n 0, 1) := by decide +kernel
theorem dX6_cut_8 : decode cX6_cut 8 = .ok (.invokevirtual 69, 3) := by decide +kernel
theorem dX6_cut_11 : decode cX6_cut 11 = .ok (.aload_n 0, 1) := by decide +kernel
theorem dX6_cut_12 : decode cX6_cut 12 = .ok (.getfield 53, 3) := by decide +kernel
theorem dX6_cut_15 : decode cX6_cut 15 = .ok (.iload_n 1, 1) := by decide +kernel
theorem dX6_cut_16 : decode cX6_cut 16 = .ok (.putfield 121, 3) := by decide +kernel
theorem dX6_cut_19 : decode cX6_cut 19 = .ok (.return_, 1) := by decide +kernel
set_option maxRecDepth 20000 in
theorem ggX6_power_X6_beginAnew : GoodIn wsX6_power wsX6_beginAnew := goodIn_r _ [11, 12, 3, 4, 13, 14, 15, 16, 17, 18, 19, 20, 5, 21, 1, 22, 23, 24, 25, 26, 27, 28, 29, 30, 31, 32, 33, 34, 35, 36, 37, 38, 39, 40, 41, 42, 43, 44, 45, 46, 47, 48, 49, 50, 51, 52, 53, 54, 123, 124, 125, 126, 127, 128, 129, 130, 131, 132, 133, 134, 135, 136, 137, 138, 139, 149, 150, 151, 152, 153, 154, 155, 156, 145, 146, 147, 148, 157, 158, 140, 141, 142, 143, 144] (by decide +kernel) (by decide +kernel)
set_option maxRecDepth 20000 in
theorem gX6_power_X6_beginAnew : GoodIn wsX6_power (wsV RX6 57 RX6 yX6_beginAnew wsX6_beginAnew) := goodIn_app (goodIn_of _ (by decide +kernel)) ggX6_power_X6_beginAnew
set_option maxRecDepth 20000 in
theorem ggX6_power_X1_newestPlace : GoodIn wsX6_power wsX1_newestPlace := goodIn_r _ [58, 59, 60, 61, 62, 51, 63, 64, 65, 66, 67, 68, 69, 70, 71, 72, 73, 74, 75, 76, 77, 78, 79, 80, 81, 82, 83, 84, 85, 86, 87, 88, 89, 90, 91, 92, 93, 94, 95, 96, 140, 141, 142, 143, 144] (by decide +kernel) (by decide +kernel)
set_option maxRecDepth 20000 in
theorem gX6_power_X1_newestPlace : GoodIn wsX6_power (wsV RX6 124 RX1 yX1_newestPlace wsX1_newestPlace) := goodIn_app (goodIn_of _ (by decide +kernel)) ggX6_power_X1_newestPlace
set_option maxRecDepth 20000 in
theorem ggX6_power_X1_numberAt : GoodIn wsX6_power wsX1_numberAt := goodIn_r _ [69, 70, 71, 72, 51, 73, 65, 74, 140, 141, 142, 143, 144] (by decide +kernel) (by decide +kernel)
set_option maxRecDepth 20000 in
theorem gX6_power_X1_numberAt : GoodIn wsX6_power (wsV RX6 128 RX1 yX1_numberAt wsX1_numberAt) := goodIn_app (goodIn_of _ (by decide +kernel)) ggX6_power_X1_numberAt
set_option maxRecDepth 20000 in
theorem ggX6_power_X1_timeAt : GoodIn wsX6_power wsX1_timeAt := goodIn_r _ [101, 70, 71, 72, 51, 73, 65, 74, 140, 141, 142, 143, 144] (by decide +kernel) (by decide +kernel)
set_option maxRecDepth 20000 in
theorem gX6_power_X1_timeAt : GoodIn wsX6_power (wsV RX6 135 RX1 yX1_timeAt wsX1_timeAt) := goodIn_app (goodIn_of _ (by decide +kernel)) ggX6_power_X1_timeAt
set_option maxRecDepth 20000 in
theorem ggX6_power_X1_partsAt : GoodIn wsX6_power wsX1_partsAt := goodIn_r _ [105, 70, 71, 72, 51, 73, 65, 74, 140, 141, 142, 143, 144] (by decide +kernel) (by decide +kernel)
set_option maxRecDepth 20000 in
theorem gX6_power_X1_partsAt : GoodIn wsX6_power (wsV RX6 141 RX1 yX1_partsAt wsX1_partsAt) := goodIn_app (goodIn_of _ (by decide +kernel)) ggX6_power_X1_partsAt
set_option maxRecDepth 20000 in
theorem ggX6_power_X6_chargeOfParts : GoodIn wsX6_power wsX6_chargeOfParts := goodIn_r _ [109, 110, 111, 112, 113, 89, 114, 115, 116, 117, 118, 123, 124, 125, 126, 127, 128, 129, 130, 131, 132, 133, 134, 135, 136, 137, 138, 139] (by decide +kernel) (by decide +kernel)
set_option maxRecDepth 20000 in
theorem gX6_power_X6_chargeOfParts : GoodIn wsX6_power (wsV RX6 145 RX6 yX6_chargeOfParts wsX6_chargeOfParts) := goodIn_app (goodIn_of _ (by decide +kernel)) ggX6_power_X6_chargeOfParts
set_option maxRecDepth 20000 in
theorem ggX6_power_X1_faultsAt : GoodIn wsX6_power wsX1_faultsAt := goodIn_r _ [122, 70, 71, 72, 51, 73, 65, 74, 140, 141, 142, 143, 144] (by decide +kernel) (by decide +kernel)
set_option maxRecDepth 20000 in
theorem gX6_power_X1_faultsAt : GoodIn wsX6_power (wsV RX6 149 RX1 yX1_faultsAt wsX1_faultsAt) := goodIn_app (goodIn_of _ (by decide +kernel)) ggX6_power_X1_faultsAt
theorem dX6_power_0 : decode cX6_power 0 = .ok (.aload_n 0, 1) := by decide +kernel
theorem dX6_power_1 : decode cX6_power 1 = .ok (.invokevirtual 57, 3) := by decide +kernel
theorem dX6_power_4 : decode cX6_power 4 = .ok (.aload_n 0, 1) := by decide +kernel
theorem dX6_power_5 : decode cX6_power 5 = .ok (.getfield 53, 3) := by decide +kernel
theorem dX6_power_8 : decode cX6_power 8 = .ok (.invokevirtual 124, 3) := by decide +kernel
theorem dX6_power_11 : decode cX6_power 11 = .ok (.istore_n 1, 1) := by decide +kernel
theorem dX6_power_12 : decode cX6_power 12 = .ok (.iload_n 1, 1) := by decide +kernel
theorem dX6_power_13 : decode cX6_power 13 = .ok (.ifCond .lt 63, 3) := by decide +kernel
theorem dX6_power_16 : decode cX6_power 16 = .ok (.aload_n 0, 1) := by decide +kernel
theorem dX6_power_17 : decode cX6_power 17 = .ok (.getfield 53, 3) := by decide +kernel
theorem dX6_power_20 : decode cX6_power 20 = .ok (.aload_n 0, 1) := by decide +kernel
theorem dX6_power_21 : decode cX6_power 21 = .ok (.getfield 53, 3) := by decide +kernel
theorem dX6_power_24 : decode cX6_power 24 = .ok (.iload_n 1, 1) := by decide +kernel
theorem dX6_power_25 : decode cX6_power 25 = .ok (.invokevirtual 128, 3) := by decide +kernel
theorem dX6_power_28 : decode cX6_power 28 = .ok (.iconst 1, 1) := by decide +kernel
theorem dX6_power_29 : decode cX6_power 29 = .ok (.iadd, 1) := by decide +kernel
theorem dX6_power_30 : decode cX6_power 30 = .ok (.putfield 132, 3) := by decide +kernel
theorem dX6_power_33 : decode cX6_power 33 = .ok (.aload_n 0, 1) := by decide +kernel
theorem dX6_power_34 : decode cX6_power 34 = .ok (.aload_n 0, 1) := by decide +kernel
theorem dX6_power_35 : decode cX6_power 35 = .ok (.getfield 53, 3) := by decide +kernel
theorem dX6_power_38 : decode cX6_power 38 = .ok (.iload_n 1, 1) := by decide +kernel
theorem dX6_power_39 : decode cX6_power 39 = .ok (.invokevirtual 135, 3) := by decide +kernel
theorem dX6_power_42 : decode cX6_power 42 = .ok (.putfield 138, 3) := by decide +kernel
theorem dX6_power_45 : decode cX6_power 45 = .ok (.aload_n 0, 1) := by decide +kernel
theorem dX6_power_46 : decode cX6_power 46 = .ok (.aload_n 0, 1) := by decide +kernel
theorem dX6_power_47 : decode cX6_power 47 = .ok (.aload_n 0, 1) := by decide +kernel
theorem dX6_power_48 : decode cX6_power 48 = .ok (.getfield 53, 3) := by decide +kernel
theorem dX6_power_51 : decode cX6_power 51 = .ok (.iload_n 1, 1) := by decide +kernel
theorem dX6_power_52 : decode cX6_power 52 = .ok (.invokevirtual 141, 3) := by decide +kernel
theorem dX6_power_55 : decode cX6_power 55 = .ok (.invokevirtual 145, 3) := by decide +kernel
theorem dX6_power_58 : decode cX6_power 58 = .ok (.putfield 101, 3) := by decide +kernel
theorem dX6_power_61 : decode cX6_power 61 = .ok (.aload_n 0, 1) := by decide +kernel
theorem dX6_power_62 : decode cX6_power 62 = .ok (.getfield 39, 3) := by decide +kernel
theorem dX6_power_65 : decode cX6_power 65 = .ok (.aload_n 0, 1) := by decide +kernel
theorem dX6_power_66 : decode cX6_power 66 = .ok (.getfield 53, 3) := by decide +kernel
theorem dX6_power_69 : decode cX6_power 69 = .ok (.iload_n 1, 1) := by decide +kernel
theorem dX6_power_70 : decode cX6_power 70 = .ok (.invokevirtual 149, 3) := by decide +kernel
theorem dX6_power_73 : decode cX6_power 73 = .ok (.putfield 152, 3) := by decide +kernel
theorem dX6_power_76 : decode cX6_power 76 = .ok (.aload_n 0, 1) := by decide +kernel
theorem dX6_power_77 : decode cX6_power 77 = .ok (.getfield 138, 3) := by decide +kernel
theorem dX6_power_80 : decode cX6_power 80 = .ok (.ireturn, 1) := by decide +kernel
theorem dX6_off_0 : decode cX6_off 0 = .ok (.aload_n 0, 1) := by decide +kernel
theorem dX6_off_1 : decode cX6_off 1 = .ok (.getfield 104, 3) := by decide +kernel
theorem dX6_off_4 : decode cX6_off 4 = .ok (.ireturn, 1) := by decide +kernel
set_option maxRecDepth 20000 in
theorem ggX6_time_X6_needPower : GoodIn wsX6_time wsX6_needPower := goodIn_ca (goodIn_r _ [6, 7, 8, 9, 10, 11, 12, 13, 14, 15, 16, 17, 18, 19, 20, 21, 22, 23, 24, 25, 26] (by decide +kernel) (by decide +kernel)) (goodIn_sub (fun _ h => List.mem_cons_of_mem _ (List.mem_append_right _ h)) (by decide +kernel))
set_option maxRecDepth 20000 in
theorem gX6_time_X6_needPower : GoodIn wsX6_time (wsV RX6 69 RX6 yX6_needPower wsX6_needPower) := goodIn_app (goodIn_of _ (by decide +kernel)) ggX6_time_X6_needPower
theorem dX6_time_0 : decode cX6_time 0 = .ok (.aload_n 0, 1) := by decide +kernel
theorem dX6_time_1 : decode cX6_time 1 = .ok (.invokevirtual 69, 3) := by decide +kernel
theorem dX6_time_4 : decode cX6_time 4 = .ok (.aload_n 0, 1) := by decide +kernel
theorem dX6_time_5 : decode cX6_time 5 = .ok (.getfield 138, 3) := by decide +kernel
theorem dX6_time_8 : decode cX6_time 8 = .ok (.ireturn, 1) := by decide +kernel
set_option maxRecDepth 20000 in
theorem ggX6_charge_X6_needPower : GoodIn wsX6_charge wsX6_needPower := goodIn_ca (goodIn_r _ [6, 7, 8, 9, 10, 11, 12, 13, 14, 15, 16, 17, 18, 19, 20, 21, 22, 23, 24, 25, 26] (by decide +kernel) (by decide +kernel)) (goodIn_sub (fun _ h => List.mem_cons_of_mem _ (List.mem_append_right _ h)) (by decide +kernel))
set_option maxRecDepth 20000 in
theorem gX6_charge_X6_needPower : GoodIn wsX6_charge (wsV RX6 69 RX6 yX6_needPower wsX6_needPower) := goodIn_app (goodIn_of _ (by decide +kernel)) ggX6_charge_X6_needPower
theorem dX6_charge_0 : decode cX6_charge 0 = .ok (.aload_n 0, 1) := by decide +kernel
theorem dX6_charge_1 : decode cX6_charge 1 = .ok (.invokevirtual 69, 3) := by decide +kernel
theorem dX6_charge_4 : decode cX6_charge 4 = .ok (.aload_n 0, 1) := by decide +kernel
theorem dX6_charge_5 : decode cX6_charge 5 = .ok (.getfield 101, 3) := by decide +kernel
theorem dX6_charge_8 : decode cX6_charge 8 = .ok (.dreturn, 1) := by decide +kernel
set_option maxRecDepth 20000 in
theorem ggX6_percent_X6_needPower : GoodIn wsX6_percent wsX6_needPower := goodIn_ca (goodIn_r _ [7, 8, 9, 10, 16, 17, 18, 19, 20, 21, 22, 23, 24, 25, 26, 27, 28, 29, 30, 31, 32] (by decide +kernel) (by decide +kernel)) (goodIn_sub (fun _ h => List.mem_cons_of_mem _ (List.mem_append_right _ h)) (by decide +kernel))
set_option maxRecDepth 20000 in
theorem gX6_percent_X6_needPower : GoodIn wsX6_percent (wsV RX6 69 RX6 yX6_needPower wsX6_needPower) := goodIn_app (goodIn_of _ (by decide +kernel)) ggX6_percent_X6_needPower
set_option maxRecDepth 20000 in
theorem ggX6_percent_X6_wholeCapacities : GoodIn wsX6_percent wsX6_wholeCapacities := goodIn_r _ [14, 15, 16, 17, 18, 19, 20, 21, 22, 23, 24, 25, 26, 27, 28, 29, 30, 31, 32] (by decide +kernel) (by decide +kernel)
set_option maxRecDepth 20000 in
theorem gX6_percent_X6_wholeCapacities : GoodIn wsX6_percent (wsV RX6 157 RX6 yX6_wholeCapacities wsX6_wholeCapacities) := goodIn_app (goodIn_of _ (by decide +kernel)) ggX6_percent_X6_wholeCapacities
theorem dX6_percent_0 : decode cX6_percent 0 = .ok (.aload_n 0, 1) := by decide +kernel
theorem dX6_percent_1 : decode cX6_percent 1 = .ok (.invokevirtual 69, 3) := by decide +kernel
theorem dX6_percent_4 : decode cX6_percent 4 = .ok (.aload_n 0, 1) := by decide +kernel
theorem dX6_percent_5 : decode cX6_percent 5 = .ok (.ldc2_w 155, 3) := by decide +kernel
theorem dX6_percent_8 : decode cX6_percent 8 = .ok (.aload_n 0, 1) := by decide +kernel
theorem dX6_percent_9 : decode cX6_percent 9 = .ok (.getfield 101, 3) := by decide +kernel
theorem dX6_percent_12 : decode cX6_percent 12 = .ok (.dmul, 1) := by decide +kernel
theorem dX6_percent_13 : decode cX6_percent 13 = .ok (.invokevirtual 157, 3) := by decide +kernel
theorem dX6_percent_16 : decode cX6_percent 16 = .ok (.ireturn, 1) := by decide +kernel
set_option maxRecDepth 20000 in
theorem ggX6_through_X6_needPower : GoodIn wsX6_through wsX6_needPower := goodIn_ca (goodIn_r _ [6, 7, 8, 9, 10, 11, 12, 13, 14, 15, 16, 17, 18, 19, 20, 21, 22, 23, 24, 25, 26] (by decide +kernel) (by decide +kernel)) (goodIn_sub (fun _ h => List.mem_cons_of_mem _ (List.mem_append_right _ h)) (by decide +kernel))
set_option maxRecDepth 20000 in
theorem gX6_through_X6_needPower : GoodIn wsX6_through (wsV RX6 69 RX6 yX6_needPower wsX6_needPower) := goodIn_app (goodIn_of _ (by decide +kernel)) ggX6_through_X6_needPower
theorem dX6_through_0 : decode cX6_through 0 = .ok (.aload_n 0, 1) := by decide +kernel
theorem dX6_through_1 : decode cX6_through 1 = .ok (.invokevirtual 69, 3) := by decide +kernel
theorem dX6_through_4 : decode cX6_through 4 = .ok (.aload_n 0, 1) := by decide +kernel
theorem dX6_through_5 : decode cX6_through 5 = .ok (.getfield 161, 3) := by decide +kernel
theorem dX6_through_8 : decode cX6_through 8 = .ok (.dreturn, 1) := by decide +kernel
set_option maxRecDepth 20000 in
theorem ggX6_allowed_X6_needPower : GoodIn wsX6_allowed wsX6_needPower := goodIn_ca (goodIn_r _ [7, 8, 9, 10, 11, 12, 13, 14, 15, 16, 17, 18, 19, 20, 21, 22, 23, 24, 25, 26, 27] (by decide +kernel) (by decide +kernel)) (goodIn_sub (fun _ h => List.mem_cons_of_mem _ (List.mem_append_right _ h)) (by decide +kernel))
set_option maxRecDepth 20000 in
theorem gX6_allowed_X6_needPower : GoodIn wsX6_allowed (wsV RX6 69 RX6 yX6_needPower wsX6_needPower) := goodIn_app (goodIn_of _ (by decide +kernel)) ggX6_allowed_X6_needPower
theorem dX6_allowed_0 : decode cX6_allowed 0 = .ok (.aload_n 0, 1) := by decide +kernel
theorem dX6_allowed_1 : decode cX6_allowed 1 = .ok (.invokevirtual 69, 3) := by decide +kernel
theorem dX6_allowed_4 : decode cX6_allowed 4 = .ok (.iload_n 1, 1) := by decide +kernel
theorem dX6_allowed_5 : decode cX6_allowed 5 = .ok (.ifCond .eq 10, 3) := by decide +kernel
theorem dX6_allowed_8 : decode cX6_allowed 8 = .ok (.aload_n 0, 1) := by decide +kernel
theorem dX6_allowed_9 : decode cX6_allowed 9 = .ok (.getfield 164, 3) := by decide +kernel
theorem dX6_allowed_12 : decode cX6_allowed 12 = .ok (.goto 7, 3) := by decide +kernel
theorem dX6_allowed_15 : decode cX6_allowed 15 = .ok (.aload_n 0, 1) := by decide +kernel
theorem dX6_allowed_16 : decode cX6_allowed 16 = .ok (.getfield 167, 3) := by decide +kernel
theorem dX6_allowed_19 : decode cX6_allowed 19 = .ok (.dreturn, 1) := by decide +kernel
set_option maxRecDepth 20000 in
theorem ggX6_valid_X6_needChip : GoodIn wsX6_valid wsX6_needChip := goodIn_ca (goodIn_r _ [6, 1, 7, 8, 5, 9, 10, 11, 43, 44, 45, 46, 47, 48, 49, 50, 51, 52, 53, 54, 55, 56, 57, 58, 59] (by decide +kernel) (by decide +kernel)) (goodIn_sub (fun _ h => List.mem_cons_of_mem _ (List.mem_append_left _ (List.mem_append_right _ h))) (by decide +kernel))
set_option maxRecDepth 20000 in
theorem gX6_valid_X6_needChip : GoodIn wsX6_valid (wsV RX6 66 RX6 yX6_needChip wsX6_needChip) := goodIn_app (goodIn_of _ (by decide +kernel)) ggX6_valid_X6_needChip
set_option maxRecDepth 20000 in
theorem ggX6_valid_X6_needIndex : GoodIn wsX6_valid wsX6_needIndex := goodIn_ca (goodIn_r _ [9, 10, 11] (by decide +kernel) (by decide +kernel)) (goodIn_sub (fun _ h => List.mem_cons_of_mem _ (List.mem_append_left _ (List.mem_append_right _ h))) (by decide +kernel))
set_option maxRecDepth 20000 in
theorem gX6_valid_X6_needIndex : GoodIn wsX6_valid (va_wsS RX6 113 yX6_needIndex wsX6_needIndex) := goodIn_app (goodIn_of _ (by decide +kernel)) ggX6_valid_X6_needIndex
set_option maxRecDepth 20000 in
theorem ggX6_valid_X6_needPower : GoodIn wsX6_valid wsX6_needPower := goodIn_ca (goodIn_r _ [15, 16, 17, 18, 43, 44, 45, 46, 47, 48, 49, 50, 51, 52, 53, 54, 55, 56, 57, 58, 59] (by decide +kernel) (by decide +kernel)) (goodIn_sub (fun _ h => List.mem_cons_of_mem _ (List.mem_append_right _ h)) (by decide +kernel))
set_option maxRecDepth 20000 in
theorem gX6_valid_X6_needPower : GoodIn wsX6_valid (wsV RX6 69 RX6 yX6_needPower wsX6_needPower) := goodIn_app (goodIn_of _ (by decide +kernel)) ggX6_valid_X6_needPower
set_option maxRecDepth 20000 in
theorem ggX6_valid_X3_isValid : GoodIn wsX6_valid wsX3_isValid := goodIn_r _ [23, 24, 25, 26, 27, 28, 22, 29, 30, 31, 32, 33, 34, 35, 36, 37, 38, 39, 40, 41, 42, 60, 61, 62, 63, 64, 65, 66, 67] (by decide +kernel) (by decide +kernel)
set_option maxRecDepth 20000 in
theorem gX6_valid_X3_isValid : GoodIn wsX6_valid (wsV RX6 170 RX3 yX3_isValid wsX3_isValid) := goodIn_app (goodIn_of _ (by decide +kernel)) ggX6_valid_X3_isValid
theorem dX6_valid_0 : decode cX6_valid 0 = .ok (.aload_n 0, 1) := by decide +kernel
theorem dX6_valid_1 : decode cX6_valid 1 = .ok (.iload_n 1, 1) := by decide +kernel
theorem dX6_valid_2 : decode cX6_valid 2 = .ok (.invokevirtual 66, 3) := by decide +kernel
theorem dX6_valid_5 : decode cX6_valid 5 = .ok (.iload_n 2, 1) := by decide +kernel
theorem dX6_valid_6 : decode cX6_valid 6 = .ok (.bipush 6, 2) := by decide +kernel
theorem dX6_valid_8 : decode cX6_valid 8 = .ok (.invokestatic 113, 3) := by decide +kernel
theorem dX6_valid_11 : decode cX6_valid 11 = .ok (.aload_n 0, 1) := by decide +kernel
theorem dX6_valid_12 : decode cX6_valid 12 = .ok (.invokevirtual 69, 3) := by decide +kernel
theorem dX6_valid_15 : decode cX6_valid 15 = .ok (.aload_n 0, 1) := by decide +kernel
theorem dX6_valid_16 : decode cX6_valid 16 = .ok (.getfield 15, 3) := by decide +kernel
theorem dX6_valid_19 : decode cX6_valid 19 = .ok (.iload_n 1, 1) := by decide +kernel
theorem dX6_valid_20 : decode cX6_valid 20 = .ok (.aaload, 1) := by decide +kernel
theorem dX6_valid_21 : decode cX6_valid 21 = .ok (.iload_n 2, 1) := by decide +kernel
theorem dX6_valid_22 : decode cX6_valid 22 = .ok (.invokevirtual 170, 3) := by decide +kernel
theorem dX6_valid_25 : decode cX6_valid 25 = .ok (.ireturn, 1) := by decide +kernel
set_option maxRecDepth 20000 in
theorem ggX6_bleeding_X6_needChip : GoodIn wsX6_bleeding wsX6_needChip := goodIn_ca (goodIn_r _ [7, 1, 8, 9, 6, 10, 11, 12, 20, 21, 22, 23, 24, 25, 26, 27, 28, 29, 30, 31, 32, 33, 34, 35, 36] (by decide +kernel) (by decide +kernel)) (goodIn_sub (fun _ h => List.mem_cons_of_mem _ (List.mem_append_left _ (List.mem_append_right _ h))) (by decide +kernel))
set_option maxRecDepth 20000 in
theorem gX6_bleeding_X6_needChip : GoodIn wsX6_bleeding (wsV RX6 66 RX6 yX6_needChip wsX6_needChip) := goodIn_app (goodIn_of _ (by decide +kernel)) ggX6_bleeding_X6_needChip
set_option maxRecDepth 20000 in
theorem ggX6_bleeding_X6_needPower : GoodIn wsX6_bleeding wsX6_needPower := goodIn_ca (goodIn_r _ [16, 17, 18, 19, 20, 21, 22, 23, 24, 25, 26, 27, 28, 29, 30, 31, 32, 33, 34, 35, 36] (by decide +kernel) (by decide +kernel)) (goodIn_sub (fun _ h => List.mem_cons_of_mem _ (List.mem_append_right _ h)) (by decide +kernel))
set_option maxRecDepth 20000 in
theorem gX6_bleeding_X6_needPower : GoodIn wsX6_bleeding (wsV RX6 69 RX6 yX6_needPower wsX6_needPower) := goodIn_app (goodIn_of _ (by decide +kernel)) ggX6_bleeding_X6_needPower
theorem dX6_bleeding_0 : decode cX6_bleeding 0 = .ok (.aload_n 0, 1) := by decide +kernel
theorem dX6_bleeding_1 : decode cX6_bleeding 1 = .ok (.iload_n 1, 1) := by decide +kernel
theorem dX6_bleeding_2 : decode cX6_bleeding 2 = .ok (.invokevirtual 66, 3) := by decide +kernel
theorem dX6_bleeding_5 : decode cX6_bleeding 5 = .ok (.aload_n 0, 1) := by decide +kernel
theorem dX6_bleeding_6 : decode cX6_bleeding 6 = .ok (.invokevirtual 69, 3) := by decide +kernel
theorem dX6_bleeding_9 : decode cX6_bleeding 9 = .ok (.aload_n 0, 1) := by decide +kernel
theorem dX6_bleeding_10 : decode cX6_bleeding 10 = .ok (.getfield 15, 3) := by decide +kernel
theorem dX6_bleeding_13 : decode cX6_bleeding 13 = .ok (.iload_n 1, 1) := by decide +kernel
theorem dX6_bleeding_14 : decode cX6_bleeding 14 = .ok (.aaload, 1) := by decide +kernel
theorem dX6_bleeding_15 : decode cX6_bleeding 15 = .ok (.getfield 174, 3) := by decide +kernel
theorem dX6_bleeding_18 : decode cX6_bleeding 18 = .ok (.ireturn, 1) := by decide +kernel
set_option maxRecDepth 20000 in
theorem ggX6_faults_X6_needPower : GoodIn wsX6_faults wsX6_needPower := goodIn_ca (goodIn_r _ [7, 8, 9, 10, 11, 12, 13, 14, 15, 16, 17, 18, 19, 20, 21, 22, 23, 24, 25, 26, 27] (by decide +kernel) (by decide +kernel)) (goodIn_sub (fun _ h => List.mem_cons_of_mem _ (List.mem_append_right _ h)) (by decide +kernel))
set_option maxRecDepth 20000 in
theorem gX6_faults_X6_needPower : GoodIn wsX6_faults (wsV RX6 69 RX6 yX6_needPower wsX6_needPower) := goodIn_app (goodIn_of _ (by decide +kernel)) ggX6_faults_X6_needPower
theorem dX6_faults_0 : decode cX6_faults 0 = .ok (.aload_n 0, 1) := by decide +kernel
theorem dX6_faults_1 : decode cX6_faults 1 = .ok (.invokevirtual 69, 3) := by decide +kernel
theorem dX6_faults_4 : decode cX6_faults 4 = .ok (.aload_n 0, 1) := by decide +kernel
theorem dX6_faults_5 : decode cX6_faults 5 = .ok (.getfield 39, 3) := by decide +kernel
theorem dX6_faults_8 : decode cX6_faults 8 = .ok (.getfield 152, 3) := by decide +kernel
theorem dX6_faults_11 : decode cX6_faults 11 = .ok (.ireturn, 1) := by decide +kernel
set_option maxRecDepth 20000 in
theorem ggX6_count_X6_needIndex : GoodIn wsX6_count wsX6_needIndex := goodIn_ca (goodIn_r _ [6, 7, 8] (by decide +kernel) (by decide +kernel)) (goodIn_sub (fun _ h => List.mem_cons_of_mem _ (List.mem_append_left _ (List.mem_append_right _ h))) (by decide +kernel))
set_option maxRecDepth 20000 in
theorem gX6_count_X6_needIndex : GoodIn wsX6_count (va_wsS RX6 113 yX6_needIndex wsX6_needIndex) := goodIn_app (goodIn_of _ (by decide +kernel)) ggX6_count_X6_needIndex
set_option maxRecDepth 20000 in
theorem ggX6_count_X6_needPower : GoodIn wsX6_count wsX6_needPower := goodIn_ca (goodIn_r _ [12, 13, 14, 15, 16, 17, 18, 19, 20, 21, 22, 23, 24, 25, 26, 27, 28, 29, 30, 31, 32] (by decide +kernel) (by decide +kernel)) (goodIn_sub (fun _ h => List.mem_cons_of_mem _ (List.mem_append_right _ h)) (by decide +kernel))
set_option maxRecDepth 20000 in
theorem gX6_count_X6_needPower : GoodIn wsX6_count (wsV RX6 69 RX6 yX6_needPower wsX6_needPower) := goodIn_app (goodIn_of _ (by decide +kernel)) ggX6_count_X6_needPower
theorem dX6_count_0 : decode cX6_count 0 = .ok (.iload_n 1, 1) := by decide +kernel
theorem dX6_count_1 : decode cX6_count 1 = .ok (.bipush 7, 2) := by decide +kernel
theorem dX6_count_3 : decode cX6_count 3 = .ok (.invokestatic 113, 3) := by decide +kernel
theorem dX6_count_6 : decode cX6_count 6 = .ok (.aload_n 0, 1) := by decide +kernel
theorem dX6_count_7 : decode cX6_count 7 = .ok (.invokevirtual 69, 3) := by decide +kernel
theorem dX6_count_10 : decode cX6_count 10 = .ok (.aload_n 0, 1) := by decide +kernel
theorem dX6_count_11 : decode cX6_count 11 = .ok (.getfield 39, 3) := by decide +kernel
theorem dX6_count_14 : decode cX6_count 14 = .ok (.getfield 177, 3) := by decide +kernel
theorem dX6_count_17 : decode cX6_count 17 = .ok (.iload_n 1, 1) := by decide +kernel
theorem dX6_count_18 : decode cX6_count 18 = .ok (.iaload, 1) := by decide +kernel
theorem dX6_count_19 : decode cX6_count 19 = .ok (.ireturn, 1) := by decide +kernel
set_option maxRecDepth 20000 in
theorem ggX6_journal_X6_needIndex : GoodIn wsX6_journal wsX6_needIndex := goodIn_ca (goodIn_r _ [6, 7, 8] (by decide +kernel) (by decide +kernel)) (goodIn_sub (fun _ h => List.mem_cons_of_mem _ (List.mem_append_right _ h)) (by decide +kernel))
set_option maxRecDepth 20000 in
theorem gX6_journal_X6_needIndex : GoodIn wsX6_journal (va_wsS RX6 113 yX6_needIndex wsX6_needIndex) := goodIn_app (goodIn_of _ (by decide +kernel)) ggX6_journal_X6_needIndex
theorem dX6_journal_0 : decode cX6_journal 0 = .ok (.iload_n 1, 1) := by decide +kernel
theorem dX6_journal_1 : decode cX6_journal 1 = .ok (.aload_n 0, 1) := by decide +kernel
theorem dX6_journal_2 : decode cX6_journal 2 = .ok (.getfield 53, 3) := by decide +kernel
theorem dX6_journal_5 : decode cX6_journal 5 = .ok (.getfield 181, 3) := by decide +kernel
theorem dX6_journal_8 : decode cX6_journal 8 = .ok (.arraylength, 1) := by decide +kernel
theorem dX6_journal_9 : decode cX6_journal 9 = .ok (.invokestatic 113, 3) := by decide +kernel
theorem dX6_journal_12 : decode cX6_journal 12 = .ok (.aload_n 0, 1) := by decide +kernel
theorem dX6_journal_13 : decode cX6_journal 13 = .ok (.getfield 53, 3) := by decide +kernel
theorem dX6_journal_16 : decode cX6_journal 16 = .ok (.getfield 181, 3) := by decide +kernel
theorem dX6_journal_19 : decode cX6_journal 19 = .ok (.iload_n 1, 1) := by decide +kernel
theorem dX6_journal_20 : decode cX6_journal 20 = .ok (.baload, 1) := by decide +kernel
theorem dX6_journal_21 : decode cX6_journal 21 = .ok (.sipush 255, 3) := by decide +kernel
theorem dX6_journal_24 : decode cX6_journal 24 = .ok (.iand, 1) := by decide +kernel
theorem dX6_journal_25 : decode cX6_journal 25 = .ok (.ireturn, 1) := by decide +kernel
set_option maxRecDepth 20000 in
theorem ggX6_spoil_X6_needIndex : GoodIn wsX6_spoil wsX6_needIndex := goodIn_ca (goodIn_r _ [6, 7, 8] (by decide +kernel) (by decide +kernel)) (goodIn_sub (fun _ h => List.mem_cons_of_mem _ (List.mem_append_left _ (List.mem_append_right _ h))) (by decide +kernel))
set_option maxRecDepth 20000 in
theorem gX6_spoil_X6_needIndex : GoodIn wsX6_spoil (va_wsS RX6 113 yX6_needIndex wsX6_needIndex) := goodIn_app (goodIn_of _ (by decide +kernel)) ggX6_spoil_X6_needIndex
set_option maxRecDepth 20000 in
theorem ggX6_spoil_X6_needWhole : GoodIn wsX6_spoil wsX6_needWhole := goodIn_ca (goodIn_r _ [11, 12, 13] (by decide +kernel) (by decide +kernel)) (goodIn_sub (fun _ h => List.mem_cons_of_mem _ (List.mem_append_right _ h)) (by decide +kernel))
set_option maxRecDepth 20000 in
theorem gX6_spoil_X6_needWhole : GoodIn wsX6_spoil (va_wsS RX6 90 yX6_needWhole wsX6_needWhole) := goodIn_app (goodIn_of _ (by decide +kernel)) ggX6_spoil_X6_needWhole
theorem dX6_spoil_0 : decode cX6_spoil 0 = .ok (.iload_n 1, 1) := by decide +kernel
theorem dX6_spoil_1 : decode cX6_spoil 1 = .ok (.aload_n 0, 1) := by decide +kernel
theorem dX6_spoil_2 : decode cX6_spoil 2 = .ok (.getfield 53, 3) := by decide +kernel
theorem dX6_spoil_5 : decode cX6_spoil 5 = .ok (.getfield 181, 3) := by decide +kernel
theorem dX6_spoil_8 : decode cX6_spoil 8 = .ok (.arraylength, 1) := by decide +kernel
theorem dX6_spoil_9 : decode cX6_spoil 9 = .ok (.invokestatic 113, 3) := by decide +kernel
theorem dX6_spoil_12 : decode cX6_spoil 12 = .ok (.iload_n 2, 1) := by decide +kernel
theorem dX6_spoil_13 : decode cX6_spoil 13 = .ok (.iconst 0, 1) := by decide +kernel
theorem dX6_spoil_14 : decode cX6_spoil 14 = .ok (.sipush 255, 3) := by decide +kernel
theorem dX6_spoil_17 : decode cX6_spoil 17 = .ok (.invokestatic 90, 3) := by decide +kernel
theorem dX6_spoil_20 : decode cX6_spoil 20 = .ok (.aload_n 0, 1) := by decide +kernel
theorem dX6_spoil_21 : decode cX6_spoil 21 = .ok (.getfield 53, 3) := by decide +kernel
theorem dX6_spoil_24 : decode cX6_spoil 24 = .ok (.getfield 181, 3) := by decide +kernel
theorem dX6_spoil_27 : decode cX6_spoil 27 = .ok (.iload_n 1, 1) := by decide +kernel
theorem dX6_spoil_28 : decode cX6_spoil 28 = .ok (.aload_n 0, 1) := by decide +kernel
theorem dX6_spoil_29 : decode cX6_spoil 29 = .ok (.getfield 53, 3) := by decide +kernel
theorem dX6_spoil_32 : decode cX6_spoil 32 = .ok (.getfield 181, 3) := by decide +kernel
theorem dX6_spoil_35 : decode cX6_spoil 35 = .ok (.iload_n 1, 1) := by decide +kernel
theorem dX6_spoil_36 : decode cX6_spoil 36 = .ok (.baload, 1) := by decide +kernel
theorem dX6_spoil_37 : decode cX6_spoil 37 = .ok (.iload_n 2, 1) := by decide +kernel
theorem dX6_spoil_38 : decode cX6_spoil 38 = .ok (.ixor, 1) := by decide +kernel
theorem dX6_spoil_39 : decode cX6_spoil 39 = .ok (.i2b, 1) := by decide +kernel
theorem dX6_spoil_40 : decode cX6_spoil 40 = .ok (.bastore, 1) := by decide +kernel
theorem dX6_spoil_41 : decode cX6_spoil 41 = .ok (.return_, 1) := by decide +kernel
theorem dX6_nearest_0 : decode cX6_nearest 0 = .ok (.iload_n 1, 1) := by decide +kernel
theorem dX6_nearest_1 : decode cX6_nearest 1 = .ok (.iload_n 2, 1) := by decide +kernel
theorem dX6_nearest_2 : decode cX6_nearest 2 = .ok (.iload_n 0, 1) := by decide +kernel
theorem dX6_nearest_3 : decode cX6_nearest 3 = .ok (.invokestatic 185, 3) := by decide +kernel
theorem dX6_nearest_6 : decode cX6_nearest 6 = .ok (.invokestatic 191, 3) := by decide +kernel
theorem dX6_nearest_9 : decode cX6_nearest 9 = .ok (.ireturn, 1) := by decide +kernel
theorem dX6_needPower_0 : decode cX6_needPower 0 = .ok (.aload_n 0, 1) := by decide +kernel
theorem dX6_needPower_1 : decode cX6_needPower 1 = .ok (.getfield 104, 3) := by decide +kernel
theorem dX6_needPower_4 : decode cX6_needPower 4 = .ok (.ifCond .eq 13, 3) := by decide +kernel
theorem dX6_needPower_7 : decode cX6_needPower 7 = .ok (.new 194, 3) := by decide +kernel
theorem dX6_needPower_10 : decode cX6_needPower 10 = .ok (.dup, 1) := by decide +kernel
theorem dX6_needPower_11 : decode cX6_needPower 11 = .ok (.ldc 196, 2) := by decide +kernel
theorem dX6_needPower_13 : decode cX6_needPower 13 = .ok (.invokespecial 198, 3) := by decide +kernel
theorem dX6_needPower_16 : decode cX6_needPower 16 = .ok (.athrow, 1) := by decide +kernel
theorem dX6_needPower_17 : decode cX6_needPower 17 = .ok (.return_, 1) := by decide +kernel
set_option maxRecDepth 20000 in
theorem ggX6_needChip_X6_needIndex : GoodIn wsX6_needChip wsX6_needIndex := goodIn_ca (goodIn_r _ [5, 6, 7] (by decide +kernel) (by decide +kernel)) (goodIn_sub (fun _ h => List.mem_cons_of_mem _ (List.mem_append_right _ h)) (by decide +kernel))
set_option maxRecDepth 20000 in
theorem gX6_needChip_X6_needIndex : GoodIn wsX6_needChip (va_wsS RX6 113 yX6_needIndex wsX6_needIndex) := goodIn_app (goodIn_of _ (by decide +kernel)) ggX6_needChip_X6_needIndex
theorem dX6_needChip_0 : decode cX6_needChip 0 = .ok (.iload_n 1, 1) := by decide +kernel
theorem dX6_needChip_1 : decode cX6_needChip 1 = .ok (.aload_n 0, 1) := by decide +kernel
theorem dX6_needChip_2 : decode cX6_needChip 2 = .ok (.getfield 15, 3) := by decide +kernel
theorem dX6_needChip_5 : decode cX6_needChip 5 = .ok (.arraylength, 1) := by decide +kernel
theorem dX6_needChip_6 : decode cX6_needChip 6 = .ok (.invokestatic 113, 3) := by decide +kernel
theorem dX6_needChip_9 : decode cX6_needChip 9 = .ok (.return_, 1) := by decide +kernel
theorem dX6_needIndex_0 : decode cX6_needIndex 0 = .ok (.iload_n 0, 1) := by decide +kernel
theorem dX6_needIndex_1 : decode cX6_needIndex 1 = .ok (.ifCond .lt 8, 3) := by decide +kernel
theorem dX6_needIndex_4 : decode cX6_needIndex 4 = .ok (.iload_n 0, 1) := by decide +kernel
theorem dX6_needIndex_5 : decode cX6_needIndex 5 = .ok (.iload_n 1, 1) := by decide +kernel
theorem dX6_needIndex_6 : decode cX6_needIndex 6 = .ok (.if_icmp .lt 13, 3) := by decide +kernel
theorem dX6_needIndex_9 : decode cX6_needIndex 9 = .ok (.new 201, 3) := by decide +kernel
theorem dX6_needIndex_12 : decode cX6_needIndex 12 = .ok (.dup, 1) := by decide +kernel
theorem dX6_needIndex_13 : decode cX6_needIndex 13 = .ok (.ldc 203, 2) := by decide +kernel
theorem dX6_needIndex_15 : decode cX6_needIndex 15 = .ok (.invokespecial 205, 3) := by decide +kernel
theorem dX6_needIndex_18 : decode cX6_needIndex 18 = .ok (.athrow, 1) := by decide +kernel
theorem dX6_needIndex_19 : decode cX6_needIndex 19 = .ok (.return_, 1) := by decide +kernel
theorem dX6_needWhole_0 : decode cX6_needWhole 0 = .ok (.iload_n 0, 1) := by decide +kernel
theorem dX6_needWhole_1 : decode cX6_needWhole 1 = .ok (.iload_n 1, 1) := by decide +kernel
theorem dX6_needWhole_2 : decode cX6_needWhole 2 = .ok (.if_icmp .lt 8, 3) := by decide +kernel
theorem dX6_needWhole_5 : decode cX6_needWhole 5 = .ok (.iload_n 0, 1) := by decide +kernel
theorem dX6_needWhole_6 : decode cX6_needWhole 6 = .ok (.iload_n 2, 1) := by decide +kernel
theorem dX6_needWhole_7 : decode cX6_needWhole 7 = .ok (.if_icmp .le 13, 3) := by decide +kernel
theorem dX6_needWhole_10 : decode cX6_needWhole 10 = .ok (.new 206, 3) := by decide +kernel
theorem dX6_needWhole_13 : decode cX6_needWhole 13 = .ok (.dup, 1) := by decide +kernel
theorem dX6_needWhole_14 : decode cX6_needWhole 14 = .ok (.ldc 208, 2) := by decide +kernel
theorem dX6_needWhole_16 : decode cX6_needWhole 16 = .ok (.invokespecial 210, 3) := by decide +kernel
theorem dX6_needWhole_19 : decode cX6_needWhole 19 = .ok (.athrow, 1) := by decide +kernel
theorem dX6_needWhole_20 : decode cX6_needWhole 20 = .ok (.return_, 1) := by decide +kernel
theorem dX6_needAmount_0 : decode cX6_needAmount 0 = .ok (.dload_n 0, 1) := by decide +kernel
theorem dX6_needAmount_1 : decode cX6_needAmount 1 = .ok (.iload_n 2, 1) := by decide +kernel
theorem dX6_needAmount_2 : decode cX6_needAmount 2 = .ok (.i2d, 1) := by decide +kernel
theorem dX6_needAmount_3 : decode cX6_needAmount 3 = .ok (.dcmp .l, 1) := by decide +kernel
theorem dX6_needAmount_4 : decode cX6_needAmount 4 = .ok (.ifCond .lt 30, 3) := by decide +kernel
theorem dX6_needAmount_7 : decode cX6_needAmount 7 = .ok (.dload_n 0, 1) := by decide +kernel
theorem dX6_needAmount_8 : decode cX6_needAmount 8 = .ok (.iload_n 3, 1) := by decide +kernel
theorem dX6_needAmount_9 : decode cX6_needAmount 9 = .ok (.i2d, 1) := by decide +kernel
theorem dX6_needAmount_10 : decode cX6_needAmount 10 = .ok (.dcmp .g, 1) := by decide +kernel
theorem dX6_needAmount_11 : decode cX6_needAmount 11 = .ok (.ifCond .gt 23, 3) := by decide +kernel
theorem dX6_needAmount_14 : decode cX6_needAmount 14 = .ok (.dload_n 0, 1) := by decide +kernel
theorem dX6_needAmount_15 : decode cX6_needAmount 15 = .ok (.ldc2_w 211, 3) := by decide +kernel
theorem dX6_needAmount_18 : decode cX6_needAmount 18 = .ok (.dmul, 1) := by decide +kernel
theorem dX6_needAmount_19 : decode cX6_needAmount 19 = .ok (.dload_n 0, 1) := by decide +kernel
theorem dX6_needAmount_20 : decode cX6_needAmount 20 = .ok (.ldc2_w 211, 3) := by decide +kernel
theorem dX6_needAmount_23 : decode cX6_needAmount 23 = .ok (.dmul, 1) := by decide +kernel
theorem dX6_needAmount_24 : decode cX6_needAmount 24 = .ok (.d2i, 1) := by decide +kernel
theorem dX6_needAmount_25 : decode cX6_needAmount 25 = .ok (.i2d, 1) := by decide +kernel
theorem dX6_needAmount_26 : decode cX6_needAmount 26 = .ok (.dcmp .l, 1) := by decide +kernel
theorem dX6_needAmount_27 : decode cX6_needAmount 27 = .ok (.ifCond .ne 7, 3) := by decide +kernel
theorem dX6_needAmount_30 : decode cX6_needAmount 30 = .ok (.iconst 1, 1) := by decide +kernel
theorem dX6_needAmount_31 : decode cX6_needAmount 31 = .ok (.goto 4, 3) := by decide +kernel
theorem dX6_needAmount_34 : decode cX6_needAmount 34 = .ok (.iconst 0, 1) := by decide +kernel
theorem dX6_needAmount_35 : decode cX6_needAmount 35 = .ok (.istore 4, 2) := by decide +kernel
theorem dX6_needAmount_37 : decode cX6_needAmount 37 = .ok (.iload 4, 2) := by decide +kernel
theorem dX6_needAmount_39 : decode cX6_needAmount 39 = .ok (.ifCond .ne 13, 3) := by decide +kernel
theorem dX6_needAmount_42 : decode cX6_needAmount 42 = .ok (.new 206, 3) := by decide +kernel
theorem dX6_needAmount_45 : decode cX6_needAmount 45 = .ok (.dup, 1) := by decide +kernel
theorem dX6_needAmount_46 : decode cX6_needAmount 46 = .ok (.ldc 213, 2) := by decide +kernel
theorem dX6_needAmount_48 : decode cX6_needAmount 48 = .ok (.invokespecial 210, 3) := by decide +kernel
theorem dX6_needAmount_51 : decode cX6_needAmount 51 = .ok (.athrow, 1) := by decide +kernel
theorem dX6_needAmount_52 : decode cX6_needAmount 52 = .ok (.return_, 1) := by decide +kernel
set_option maxRecDepth 20000 in
theorem ggX6_beginAnew_X3_beginAnew : GoodIn wsX6_beginAnew wsX3_beginAnew := goodIn_r _ [19, 20, 21, 22, 23, 24, 25, 65, 66, 67, 68, 69, 70, 71, 72] (by decide +kernel) (by decide +kernel)
set_option maxRecDepth 20000 in
theorem gX6_beginAnew_X3_beginAnew : GoodIn wsX6_beginAnew (wsV RX6 218 RX3 yX3_beginAnew wsX3_beginAnew) := goodIn_app (goodIn_of _ (by decide +kernel)) ggX6_beginAnew_X3_beginAnew
set_option maxRecDepth 20000 in
theorem ggX6_beginAnew_X0_beginAnew : GoodIn wsX6_beginAnew wsX0_beginAnew := goodIn_r _ [30, 31, 32, 33, 73, 74, 75, 76] (by decide +kernel) (by decide +kernel)
set_option maxRecDepth 20000 in
theorem gX6_beginAnew_X0_beginAnew : GoodIn wsX6_beginAnew (wsV RX6 219 RX0 yX0_beginAnew wsX0_beginAnew) := goodIn_app (goodIn_of _ (by decide +kernel)) ggX6_beginAnew_X0_beginAnew
set_option maxRecDepth 20000 in
theorem ggX6_beginAnew_X4_beginAnew : GoodIn wsX6_beginAnew wsX4_beginAnew := goodIn_r _ [38, 39, 40, 77, 78] (by decide +kernel) (by decide +kernel)
set_option maxRecDepth 20000 in
theorem gX6_beginAnew_X4_beginAnew : GoodIn wsX6_beginAnew (wsV RX6 220 RX4 yX4_beginAnew wsX4_beginAnew) := goodIn_app (goodIn_of _ (by decide +kernel)) ggX6_beginAnew_X4_beginAnew
set_option maxRecDepth 20000 in
theorem ggX6_beginAnew_X1_beginAnew : GoodIn wsX6_beginAnew wsX1_beginAnew := goodIn_r _ [45, 46, 47, 79, 80, 81, 82, 83] (by decide +kernel) (by decide +kernel)
set_option maxRecDepth 20000 in
theorem gX6_beginAnew_X1_beginAnew : GoodIn wsX6_beginAnew (wsV RX6 221 RX1 yX1_beginAnew wsX1_beginAnew) := goodIn_app (goodIn_of _ (by decide +kernel)) ggX6_beginAnew_X1_beginAnew
theorem dX6_beginAnew_0 : decode cX6_beginAnew 0 = .ok (.aload_n 0, 1) := by decide +kernel
theorem dX6_beginAnew_1 : decode cX6_beginAnew 1 = .ok (.iconst 0, 1) := by decide +kernel
theorem dX6_beginAnew_2 : decode cX6_beginAnew 2 = .ok (.putfield 104, 3) := by decide +kernel
theorem dX6_beginAnew_5 : decode cX6_beginAnew 5 = .ok (.aload_n 0, 1) := by decide +kernel
theorem dX6_beginAnew_6 : decode cX6_beginAnew 6 = .ok (.iconst 0, 1) := by decide +kernel
theorem dX6_beginAnew_7 : decode cX6_beginAnew 7 = .ok (.putfield 138, 3) := by decide +kernel
theorem dX6_beginAnew_10 : decode cX6_beginAnew 10 = .ok (.aload_n 0, 1) := by decide +kernel
theorem dX6_beginAnew_11 : decode cX6_beginAnew 11 = .ok (.dconst 0, 1) := by decide +kernel
theorem dX6_beginAnew_12 : decode cX6_beginAnew 12 = .ok (.putfield 101, 3) := by decide +kernel
theorem dX6_beginAnew_15 : decode cX6_beginAnew 15 = .ok (.aload_n 0, 1) := by decide +kernel
theorem dX6_beginAnew_16 : decode cX6_beginAnew 16 = .ok (.dconst 0, 1) := by decide +kernel
theorem dX6_beginAnew_17 : decode cX6_beginAnew 17 = .ok (.putfield 161, 3) := by decide +kernel
theorem dX6_beginAnew_20 : decode cX6_beginAnew 20 = .ok (.aload_n 0, 1) := by decide +kernel
theorem dX6_beginAnew_21 : decode cX6_beginAnew 21 = .ok (.iconst 0, 1) := by decide +kernel
theorem dX6_beginAnew_22 : decode cX6_beginAnew 22 = .ok (.putfield 215, 3) := by decide +kernel
theorem dX6_beginAnew_25 : decode cX6_beginAnew 25 = .ok (.aload_n 0, 1) := by decide +kernel
theorem dX6_beginAnew_26 : decode cX6_beginAnew 26 = .ok (.dconst 0, 1) := by decide +kernel
theorem dX6_beginAnew_27 : decode cX6_beginAnew 27 = .ok (.putfield 74, 3) := by decide +kernel
theorem dX6_beginAnew_30 : decode cX6_beginAnew 30 = .ok (.aload_n 0, 1) := by decide +kernel
theorem dX6_beginAnew_31 : decode cX6_beginAnew 31 = .ok (.iconst 0, 1) := by decide +kernel
theorem dX6_beginAnew_32 : decode cX6_beginAnew 32 = .ok (.putfield 94, 3) := by decide +kernel
theorem dX6_beginAnew_35 : decode cX6_beginAnew 35 = .ok (.aload_n 0, 1) := by decide +kernel
theorem dX6_beginAnew_36 : decode cX6_beginAnew 36 = .ok (.iconst 0, 1) := by decide +kernel
theorem dX6_beginAnew_37 : decode cX6_beginAnew 37 = .ok (.putfield 97, 3) := by decide +kernel
theorem dX6_beginAnew_40 : decode cX6_beginAnew 40 = .ok (.aload_n 0, 1) := by decide +kernel
theorem dX6_beginAnew_41 : decode cX6_beginAnew 41 = .ok (.dconst 0, 1) := by decide +kernel
theorem dX6_beginAnew_42 : decode cX6_beginAnew 42 = .ok (.putfield 167, 3) := by decide +kernel
theorem dX6_beginAnew_45 : decode cX6_beginAnew 45 = .ok (.aload_n 0, 1) := by decide +kernel
theorem dX6_beginAnew_46 : decode cX6_beginAnew 46 = .ok (.dconst 0, 1) := by decide +kernel
theorem dX6_beginAnew_47 : decode cX6_beginAnew 47 = .ok (.putfield 164, 3) := by decide +kernel
theorem dX6_beginAnew_50 : decode cX6_beginAnew 50 = .ok (.aload_n 0, 1) := by decide +kernel
theorem dX6_beginAnew_51 : decode cX6_beginAnew 51 = .ok (.getfield 15, 3) := by decide +kernel
theorem dX6_beginAnew_54 : decode cX6_beginAnew 54 = .ok (.astore_n 1, 1) := by decide +kernel
theorem dX6_beginAnew_55 : decode cX6_beginAnew 55 = .ok (.aload_n 1, 1) := by decide +kernel
theorem dX6_beginAnew_56 : decode cX6_beginAnew 56 = .ok (.arraylength, 1) := by decide +kernel
theorem dX6_beginAnew_57 : decode cX6_beginAnew 57 = .ok (.istore_n 2, 1) := by decide +kernel
theorem dX6_beginAnew_58 : decode cX6_beginAnew 58 = .ok (.iconst 0, 1) := by decide +kernel
theorem dX6_beginAnew_59 : decode cX6_beginAnew 59 = .ok (.istore_n 3, 1) := by decide +kernel
theorem dX6_beginAnew_60 : decode cX6_beginAnew 60 = .ok (.iload_n 3, 1) := by decide +kernel
theorem dX6_beginAnew_61 : decode cX6_beginAnew 61 = .ok (.iload_n 2, 1) := by decide +kernel
theorem dX6_beginAnew_62 : decode cX6_beginAnew 62 = .ok (.if_icmp .ge 19, 3) := by decide +kernel
theorem dX6_beginAnew_65 : decode cX6_beginAnew 65 = .ok (.aload_n 1, 1) := by decide +kernel
theorem dX6_beginAnew_66 : decode cX6_beginAnew 66 = .ok (.iload_n 3, 1) := by decide +kernel
theorem dX6_beginAnew_67 : decode cX6_beginAnew 67 = .ok (.aaload, 1) := by decide +kernel
theorem dX6_beginAnew_68 : decode cX6_beginAnew 68 = .ok (.astore 4, 2) := by decide +kernel
theorem dX6_beginAnew_70 : decode cX6_beginAnew 70 = .ok (.aload 4, 2) := by decide +kernel
theorem dX6_beginAnew_72 : decode cX6_beginAnew 72 = .ok (.invokevirtual 218, 3) := by decide +kernel
theorem dX6_beginAnew_75 : decode cX6_beginAnew 75 = .ok (.iinc 3 1, 3) := by decide +kernel
theorem dX6_beginAnew_78 : decode cX6_beginAnew 78 = .ok (.goto (-18), 3) := by decide +kernel
theorem dX6_beginAnew_81 : decode cX6_beginAnew 81 = .ok (.aload_n 0, 1) := by decide +kernel
theorem dX6_beginAnew_82 : decode cX6_beginAnew 82 = .ok (.getfield 39, 3) := by decide +kernel
theorem dX6_beginAnew_85 : decode cX6_beginAnew 85 = .ok (.invokevirtual 219, 3) := by decide +kernel
theorem dX6_beginAnew_88 : decode cX6_beginAnew 88 = .ok (.aload_n 0, 1) := by decide +kernel
theorem dX6_beginAnew_89 : decode cX6_beginAnew 89 = .ok (.getfield 46, 3) := by decide +kernel
theorem dX6_beginAnew_92 : decode cX6_beginAnew 92 = .ok (.invokevirtual 220, 3) := by decide +kernel
theorem dX6_beginAnew_95 : decode cX6_beginAnew 95 = .ok (.aload_n 0, 1) := by decide +kernel
theorem dX6_beginAnew_96 : decode cX6_beginAnew 96 = .ok (.getfield 53, 3) := by decide +kernel
theorem dX6_beginAnew_99 : decode cX6_beginAnew 99 = .ok (.invokevirtual 221, 3) := by decide +kernel
theorem dX6_beginAnew_102 : decode cX6_beginAnew 102 = .ok (.return_, 1) := by decide +kernel
theorem dX6_chargeOfParts_0 : decode cX6_chargeOfParts 0 = .ok (.aload_n 0, 1) := by decide +kernel
theorem dX6_chargeOfParts_1 : decode cX6_chargeOfParts 1 = .ok (.getfield 20, 3) := by decide +kernel
theorem dX6_chargeOfParts_4 : decode cX6_chargeOfParts 4 = .ok (.i2l, 1) := by decide +kernel
theorem dX6_chargeOfParts_5 : decode cX6_chargeOfParts 5 = .ok (.ldc2_w 222, 3) := by decide +kernel
theorem dX6_chargeOfParts_8 : decode cX6_chargeOfParts 8 = .ok (.lmul, 1) := by decide +kernel
theorem dX6_chargeOfParts_9 : decode cX6_chargeOfParts 9 = .ok (.lstore_n 3, 1) := by decide +kernel
theorem dX6_chargeOfParts_10 : decode cX6_chargeOfParts 10 = .ok (.lconst 0, 1) := by decide +kernel
theorem dX6_chargeOfParts_11 : decode cX6_chargeOfParts 11 = .ok (.lload_n 3, 1) := by decide +kernel
theorem dX6_chargeOfParts_12 : decode cX6_chargeOfParts 12 = .ok (.lload_n 1, 1) := by decide +kernel
theorem dX6_chargeOfParts_13 : decode cX6_chargeOfParts 13 = .ok (.invokestatic 224, 3) := by decide +kernel
theorem dX6_chargeOfParts_16 : decode cX6_chargeOfParts 16 = .ok (.invokestatic 227, 3) := by decide +kernel
theorem dX6_chargeOfParts_19 : decode cX6_chargeOfParts 19 = .ok (.l2d, 1) := by decide +kernel
theorem dX6_chargeOfParts_20 : decode cX6_chargeOfParts 20 = .ok (.ldc2_w 229, 3) := by decide +kernel
theorem dX6_chargeOfParts_23 : decode cX6_chargeOfParts 23 = .ok (.ddiv, 1) := by decide +kernel
theorem dX6_chargeOfParts_24 : decode cX6_chargeOfParts 24 = .ok (.dreturn, 1) := by decide +kernel
set_option maxRecDepth 20000 in
theorem ggX6_passOneTick_X5_look : GoodIn wsX6_passOneTick wsX5_look := goodIn_r _ [15, 16, 17, 18, 19, 20, 21, 22, 23, 24, 25, 26, 27, 28, 29, 30, 31, 32, 33, 34, 35, 36, 14, 37, 38, 39, 40, 41, 42, 43, 44, 45, 46, 47, 48, 49, 50, 51, 52, 53, 54, 55, 56, 57, 58, 59, 60, 61, 62, 63, 257, 258, 259, 260, 261, 262, 263, 245, 246, 247, 248, 249, 250, 251, 252] (by decide +kernel) (by decide +kernel)
set_option maxRecDepth 20000 in
theorem gX6_passOneTick_X5_look : GoodIn wsX6_passOneTick (wsV RX6 234 RX5 yX5_look wsX5_look) := goodIn_app (goodIn_of _ (by decide +kernel)) ggX6_passOneTick_X5_look
set_option maxRecDepth 20000 in
theorem ggX6_passOneTick_X6_moveCharge : GoodIn wsX6_passOneTick wsX6_moveCharge := goodIn_r _ [68, 69, 70, 71, 72, 73, 74, 75, 4, 76, 2, 77, 44, 41, 45, 78, 79, 80, 81, 67, 82, 83, 84, 85, 14, 86, 16, 17, 87, 88, 89, 90, 91, 228, 229, 230, 231, 232, 233, 234, 235, 236, 237, 238, 239, 240, 241, 242, 243, 244, 257, 258, 259, 260, 261, 262, 263] (by decide +kernel) (by decide +kernel)
set_option maxRecDepth 20000 in
theorem gX6_passOneTick_X6_moveCharge : GoodIn wsX6_passOneTick (wsV RX6 238 RX6 yX6_moveCharge wsX6_moveCharge) := goodIn_app (goodIn_of _ (by decide +kernel)) ggX6_passOneTick_X6_moveCharge
set_option maxRecDepth 20000 in
theorem ggX6_passOneTick_X6_tellAllowed : GoodIn wsX6_passOneTick wsX6_tellAllowed := goodIn_r _ [95, 4, 96, 97, 98, 40, 41, 42, 99, 69, 100, 101, 102, 71, 103, 104, 105, 67, 106, 107, 108, 109, 110, 111, 112, 113, 114, 115, 116, 117, 118, 119, 120, 121, 122, 123, 124, 125, 126, 228, 229, 230, 231, 232, 233, 234, 235, 236, 237, 238, 239, 240, 241, 242, 243, 244, 257, 258, 259, 260, 261, 262, 263] (by decide +kernel) (by decide +kernel)
set_option maxRecDepth 20000 in
theorem gX6_passOneTick_X6_tellAllowed : GoodIn wsX6_passOneTick (wsV RX6 241 RX6 yX6_tellAllowed wsX6_tellAllowed) := goodIn_app (goodIn_of _ (by decide +kernel)) ggX6_passOneTick_X6_tellAllowed
set_option maxRecDepth 20000 in
theorem ggX6_passOneTick_X6_watchCauses : GoodIn wsX6_passOneTick wsX6_watchCauses := goodIn_r _ [130, 8, 9, 4, 131, 132, 133, 134, 96, 135, 97, 136, 70, 101, 113, 103, 137, 138, 139, 140, 141, 142, 143, 40, 41, 42, 144, 145, 146, 147, 148, 149, 150, 151, 152, 153, 154, 228, 229, 230, 231, 232, 233, 234, 235, 236, 237, 238, 239, 240, 241, 242, 243, 244, 253, 254, 255, 256, 257, 258, 259, 260, 261, 262, 263] (by decide +kernel) (by decide +kernel)
set_option maxRecDepth 20000 in
theorem gX6_passOneTick_X6_watchCauses : GoodIn wsX6_passOneTick (wsV RX6 244 RX6 yX6_watchCauses wsX6_watchCauses) := goodIn_app (goodIn_of _ (by decide +kernel)) ggX6_passOneTick_X6_watchCauses
set_option maxRecDepth 20000 in
theorem ggX6_passOneTick_X4_step : GoodIn wsX6_passOneTick wsX4_step := goodIn_r _ [159, 160, 161, 162, 163, 164, 140, 165, 149, 166, 167, 168, 158, 169, 170, 171, 146, 147, 148, 150, 151, 152, 153, 154, 172, 173, 174, 175, 176, 84, 85, 14, 86, 16, 17, 264, 265, 253, 254, 255, 256, 257, 258, 259, 260, 261, 262, 263] (by decide +kernel) (by decide +kernel)
set_option maxRecDepth 20000 in
theorem gX6_passOneTick_X4_step : GoodIn wsX6_passOneTick (wsV RX6 247 RX4 yX4_step wsX4_step) := goodIn_app (goodIn_of _ (by decide +kernel)) ggX6_passOneTick_X4_step
set_option maxRecDepth 20000 in
theorem ggX6_passOneTick_X6_letBleed : GoodIn wsX6_passOneTick wsX6_letBleed := goodIn_r _ [180, 5, 181, 8, 115, 2, 4, 134, 1, 182, 183, 163, 164, 140, 165, 149, 79, 80, 81, 67, 82, 70, 184, 185, 186, 30, 187, 50, 188, 47, 48, 49, 51, 52, 28, 29, 31, 32, 33, 53, 54, 55, 56, 57, 58, 59, 60, 61, 62, 63, 228, 229, 230, 231, 232, 233, 234, 235, 236, 237, 238, 239, 240, 241, 242, 243, 244, 264, 265, 257, 258, 259, 260, 261, 262, 263, 245, 246, 247, 248, 249, 250, 251, 252, 253, 254, 255, 256] (by decide +kernel) (by decide +kernel)
set_option maxRecDepth 20000 in
theorem gX6_passOneTick_X6_letBleed : GoodIn wsX6_passOneTick (wsV RX6 251 RX6 yX6_letBleed wsX6_letBleed) := goodIn_app (goodIn_of _ (by decide +kernel)) ggX6_passOneTick_X6_letBleed
set_option maxRecDepth 20000 in
theorem ggX6_passOneTick_X6_writeBlock : GoodIn wsX6_passOneTick wsX6_writeBlock := goodIn_r _ [192, 69, 193, 194, 1, 8, 195, 5, 181, 196, 197, 198, 199, 200, 201, 202, 203, 204, 205, 206, 207, 208, 209, 210, 211, 212, 213, 214, 40, 41, 42, 215, 44, 45, 216, 217, 218, 219, 220, 221, 222, 223, 224, 225, 226, 227, 228, 229, 230, 231, 232, 233, 234, 235, 236, 237, 238, 239, 240, 241, 242, 243, 244, 253, 254, 255, 256, 264, 265, 266, 267, 268, 269, 270] (by decide +kernel) (by decide +kernel)
set_option maxRecDepth 20000 in
theorem gX6_passOneTick_X6_writeBlock : GoodIn wsX6_passOneTick (wsV RX6 257 RX6 yX6_writeBlock wsX6_writeBlock) := goodIn_app (goodIn_of _ (by decide +kernel)) ggX6_passOneTick_X6_writeBlock
theorem dX6_passOneTick_0 : decode cX6_passOneTick 0 = .ok (.aload_n 0, 1) := by decide +kernel
theorem dX6_passOneTick_1 : decode cX6_passOneTick 1 = .ok (.dup, 1) := by decide +kernel
theorem dX6_passOneTick_2 : decode cX6_passOneTick 2 = .ok (.getfield 138, 3) := by decide +kernel
theorem dX6_passOneTick_5 : decode cX6_passOneTick 5 = .ok (.iconst 1, 1) := by decide +kernel
theorem dX6_passOneTick_6 : decode cX6_passOneTick 6 = .ok (.iadd, 1) := by decide +kernel
theorem dX6_passOneTick_7 : decode cX6_passOneTick 7 = .ok (.putfield 138, 3) := by decide +kernel
theorem dX6_passOneTick_10 : decode cX6_passOneTick 10 = .ok (.aload_n 0, 1) := by decide +kernel
theorem dX6_passOneTick_11 : decode cX6_passOneTick 11 = .ok (.getfield 15, 3) := by decide +kernel
theorem dX6_passOneTick_14 : decode cX6_passOneTick 14 = .ok (.astore_n 1, 1) := by decide +kernel
theorem dX6_passOneTick_15 : decode cX6_passOneTick 15 = .ok (.aload_n 1, 1) := by decide +kernel
theorem dX6_passOneTick_16 : decode cX6_passOneTick 16 = .ok (.arraylength, 1) := by decide +kernel
theorem dX6_passOneTick_17 : decode cX6_passOneTick 17 = .ok (.istore_n 2, 1) := by decide +kernel
theorem dX6_passOneTick_18 : decode cX6_passOneTick 18 = .ok (.iconst 0, 1) := by decide +kernel
theorem dX6_passOneTick_19 : decode cX6_passOneTick 19 = .ok (.istore_n 3, 1) := by decide +kernel
theorem dX6_passOneTick_20 : decode cX6_passOneTick 20 = .ok (.iload_n 3, 1) := by decide +kernel
theorem dX6_passOneTick_21 : decode cX6_passOneTick 21 = .ok (.iload_n 2, 1) := by decide +kernel
theorem dX6_passOneTick_22 : decode cX6_passOneTick 22 = .ok (.if_icmp .ge 25, 3) := by decide +kernel
theorem dX6_passOneTick_25 : decode cX6_passOneTick 25 = .ok (.aload_n 1, 1) := by decide +kernel
theorem dX6_passOneTick_26 : decode cX6_passOneTick 26 = .ok (.iload_n 3, 1) := by decide +kernel
theorem dX6_passOneTick_27 : decode cX6_passOneTick 27 = .ok (.aaload, 1) := by decide +kernel
theorem dX6_passOneTick_28 : decode cX6_passOneTick 28 = .ok (.astore 4, 2) := by decide +kernel
theorem dX6_passOneTick_30 : decode cX6_passOneTick 30 = .ok (.aload 4, 2) := by decide +kernel
theorem dX6_passOneTick_32 : decode cX6_passOneTick 32 = .ok (.dup, 1) := by decide +kernel
theorem dX6_passOneTick_33 : decode cX6_passOneTick 33 = .ok (.getfield 231, 3) := by decide +kernel
theorem dX6_passOneTick_36 : decode cX6_passOneTick 36 = .ok (.iconst 1, 1) := by decide +kernel
theorem dX6_passOneTick_37 : decode cX6_passOneTick 37 = .ok (.iadd, 1) := by decide +kernel
theorem dX6_passOneTick_38 : decode cX6_passOneTick 38 = .ok (.putfield 231, 3) := by decide +kernel
theorem dX6_passOneTick_41 : decode cX6_passOneTick 41 = .ok (.iinc 3 1, 3) := by decide +kernel
theorem dX6_passOneTick_44 : decode cX6_passOneTick 44 = .ok (.goto (-24), 3) := by decide +kernel
theorem dX6_passOneTick_47 : decode cX6_passOneTick 47 = .ok (.aload_n 0, 1) := by decide +kernel
theorem dX6_passOneTick_48 : decode cX6_passOneTick 48 = .ok (.getfield 30, 3) := by decide +kernel
theorem dX6_passOneTick_51 : decode cX6_passOneTick 51 = .ok (.aload_n 0, 1) := by decide +kernel
theorem dX6_passOneTick_52 : decode cX6_passOneTick 52 = .ok (.getfield 15, 3) := by decide +kernel
theorem dX6_passOneTick_55 : decode cX6_passOneTick 55 = .ok (.invokevirtual 234, 3) := by decide +kernel
theorem dX6_passOneTick_58 : decode cX6_passOneTick 58 = .ok (.aload_n 0, 1) := by decide +kernel
theorem dX6_passOneTick_59 : decode cX6_passOneTick 59 = .ok (.invokevirtual 238, 3) := by decide +kernel
theorem dX6_passOneTick_62 : decode cX6_passOneTick 62 = .ok (.aload_n 0, 1) := by decide +kernel
theorem dX6_passOneTick_63 : decode cX6_passOneTick 63 = .ok (.invokevirtual 241, 3) := by decide +kernel
theorem dX6_passOneTick_66 : decode cX6_passOneTick 66 = .ok (.aload_n 0, 1) := by decide +kernel
theorem dX6_passOneTick_67 : decode cX6_passOneTick 67 = .ok (.invokevirtual 244, 3) := by decide +kernel
theorem dX6_passOneTick_70 : decode cX6_passOneTick 70 = .ok (.aload_n 0, 1) := by decide +kernel
theorem dX6_passOneTick_71 : decode cX6_passOneTick 71 = .ok (.getfield 46, 3) := by decide +kernel
theorem dX6_passOneTick_74 : decode cX6_passOneTick 74 = .ok (.aload_n 0, 1) := by decide +kernel
theorem dX6_passOneTick_75 : decode cX6_passOneTick 75 = .ok (.getfield 97, 3) := by decide +kernel
theorem dX6_passOneTick_78 : decode cX6_passOneTick 78 = .ok (.aload_n 0, 1) := by decide +kernel
theorem dX6_passOneTick_79 : decode cX6_passOneTick 79 = .ok (.getfield 94, 3) := by decide +kernel
theorem dX6_passOneTick_82 : decode cX6_passOneTick 82 = .ok (.aload_n 0, 1) := by decide +kernel
theorem dX6_passOneTick_83 : decode cX6_passOneTick 83 = .ok (.getfield 30, 3) := by decide +kernel
theorem dX6_passOneTick_86 : decode cX6_passOneTick 86 = .ok (.aload_n 0, 1) := by decide +kernel
theorem dX6_passOneTick_87 : decode cX6_passOneTick 87 = .ok (.getfield 39, 3) := by decide +kernel
theorem dX6_passOneTick_90 : decode cX6_passOneTick 90 = .ok (.invokevirtual 247, 3) := by decide +kernel
theorem dX6_passOneTick_93 : decode cX6_passOneTick 93 = .ok (.aload_n 0, 1) := by decide +kernel
theorem dX6_passOneTick_94 : decode cX6_passOneTick 94 = .ok (.invokevirtual 251, 3) := by decide +kernel
theorem dX6_passOneTick_97 : decode cX6_passOneTick 97 = .ok (.aload_n 0, 1) := by decide +kernel
theorem dX6_passOneTick_98 : decode cX6_passOneTick 98 = .ok (.getfield 39, 3) := by decide +kernel
theorem dX6_passOneTick_101 : decode cX6_passOneTick 101 = .ok (.getfield 254, 3) := by decide +kernel
theorem dX6_passOneTick_104 : decode cX6_passOneTick 104 = .ok (.ifCond .ne 15, 3) := by decide +kernel
theorem dX6_passOneTick_107 : decode cX6_passOneTick 107 = .ok (.aload_n 0, 1) := by decide +kernel
theorem dX6_passOneTick_108 : decode cX6_passOneTick 108 = .ok (.getfield 138, 3) := by decide +kernel
theorem dX6_passOneTick_111 : decode cX6_passOneTick 111 = .ok (.aload_n 0, 1) := by decide +kernel
theorem dX6_passOneTick_112 : decode cX6_passOneTick 112 = .ok (.getfield 24, 3) := by decide +kernel
theorem dX6_passOneTick_115 : decode cX6_passOneTick 115 = .ok (.irem, 1) := by decide +kernel
theorem dX6_passOneTick_116 : decode cX6_passOneTick 116 = .ok (.ifCond .ne 7, 3) := by decide +kernel
theorem dX6_passOneTick_119 : decode cX6_passOneTick 119 = .ok (.aload_n 0, 1) := by decide +kernel
theorem dX6_passOneTick_120 : decode cX6_passOneTick 120 = .ok (.invokevirtual 257, 3) := by decide +kernel
theorem dX6_passOneTick_123 : decode cX6_passOneTick 123 = .ok (.return_, 1) := by decide +kernel
theorem dX6_currentSize_0 : decode cX6_currentSize 0 = .ok (.aload_n 0, 1) := by decide +kernel
theorem dX6_currentSize_1 : decode cX6_currentSize 1 = .ok (.getfield 74, 3) := by decide +kernel
theorem dX6_currentSize_4 : decode cX6_currentSize 4 = .ok (.dconst 0, 1) := by decide +kernel
theorem dX6_currentSize_5 : decode cX6_currentSize 5 = .ok (.dcmp .g, 1) := by decide +kernel
theorem dX6_currentSize_6 : decode cX6_currentSize 6 = .ok (.ifCond .ge 11, 3) := by decide +kernel
theorem dX6_currentSize_9 : decode cX6_currentSize 9 = .ok (.aload_n 0, 1) := by decide +kernel
theorem dX6_currentSize_10 : decode cX6_currentSize 10 = .ok (.getfield 74, 3) := by decide +kernel
theorem dX6_currentSize_13 : decode cX6_currentSize 13 = .ok (.dneg, 1) := by decide +kernel
theorem dX6_currentSize_14 : decode cX6_currentSize 14 = .ok (.goto 7, 3) := by decide +kernel
theorem dX6_currentSize_17 : decode cX6_currentSize 17 = .ok (.aload_n 0, 1) := by decide +kernel
theorem dX6_currentSize_18 : decode cX6_currentSize 18 = .ok (.getfield 74, 3) := by decide +kernel
theorem dX6_currentSize_21 : decode cX6_currentSize 21 = .ok (.dreturn, 1) := by decide +kernel
set_option maxRecDepth 20000 in
theorem ggX6_moveCharge_X6_currentSize : GoodIn wsX6_moveCharge wsX6_currentSize := goodIn_r _ [20, 2, 33, 34, 35, 36, 37, 38, 39, 40, 41, 42, 43, 44, 45, 46, 47, 48, 49] (by decide +kernel) (by decide +kernel)
set_option maxRecDepth 20000 in
theorem gX6_moveCharge_X6_currentSize : GoodIn wsX6_moveCharge (wsV RX6 260 RX6 yX6_currentSize wsX6_currentSize) := goodIn_app (goodIn_of _ (by decide +kernel)) ggX6_moveCharge_X6_currentSize
set_option maxRecDepth 20000 in
theorem ggX6_moveCharge_X5_allValid : GoodIn wsX6_moveCharge wsX5_allValid := goodIn_r _ [25, 26, 27, 50, 51, 52, 53, 54, 55, 56] (by decide +kernel) (by decide +kernel)
set_option maxRecDepth 20000 in
theorem gX6_moveCharge_X5_allValid : GoodIn wsX6_moveCharge (wsV RX6 268 RX5 yX5_allValid wsX5_allValid) := goodIn_app (goodIn_of _ (by decide +kernel)) ggX6_moveCharge_X5_allValid
set_option maxRecDepth 20000 in
theorem ggX6_moveCharge_X6_partsAtRest : GoodIn wsX6_moveCharge wsX6_partsAtRest := goodIn_r _ [30, 31, 32] (by decide +kernel) (by decide +kernel)
set_option maxRecDepth 20000 in
theorem gX6_moveCharge_X6_partsAtRest : GoodIn wsX6_moveCharge (va_wsS RX6 275 yX6_partsAtRest wsX6_partsAtRest) := goodIn_app (goodIn_of _ (by decide +kernel)) ggX6_moveCharge_X6_partsAtRest
theorem dX6_moveCharge_0 : decode cX6_moveCharge 0 = .ok (.aload_n 0, 1) := by decide +kernel
theorem dX6_moveCharge_1 : decode cX6_moveCharge 1 = .ok (.aload_n 0, 1) := by decide +kernel
theorem dX6_moveCharge_2 : decode cX6_moveCharge 2 = .ok (.getfield 101, 3) := by decide +kernel
theorem dX6_moveCharge_5 : decode cX6_moveCharge 5 = .ok (.aload_n 0, 1) := by decide +kernel
theorem dX6_moveCharge_6 : decode cX6_moveCharge 6 = .ok (.getfield 74, 3) := by decide +kernel
theorem dX6_moveCharge_9 : decode cX6_moveCharge 9 = .ok (.dsub, 1) := by decide +kernel
theorem dX6_moveCharge_10 : decode cX6_moveCharge 10 = .ok (.putfield 101, 3) := by decide +kernel
theorem dX6_moveCharge_13 : decode cX6_moveCharge 13 = .ok (.aload_n 0, 1) := by decide +kernel
theorem dX6_moveCharge_14 : decode cX6_moveCharge 14 = .ok (.getfield 101, 3) := by decide +kernel
theorem dX6_moveCharge_17 : decode cX6_moveCharge 17 = .ok (.dconst 0, 1) := by decide +kernel
theorem dX6_moveCharge_18 : decode cX6_moveCharge 18 = .ok (.dcmp .g, 1) := by decide +kernel
theorem dX6_moveCharge_19 : decode cX6_moveCharge 19 = .ok (.ifCond .ge 11, 3) := by decide +kernel
theorem dX6_moveCharge_22 : decode cX6_moveCharge 22 = .ok (.aload_n 0, 1) := by decide +kernel
theorem dX6_moveCharge_23 : decode cX6_moveCharge 23 = .ok (.dconst 0, 1) := by decide +kernel
theorem dX6_moveCharge_24 : decode cX6_moveCharge 24 = .ok (.putfield 101, 3) := by decide +kernel
theorem dX6_moveCharge_27 : decode cX6_moveCharge 27 = .ok (.goto 25, 3) := by decide +kernel
theorem dX6_moveCharge_30 : decode cX6_moveCharge 30 = .ok (.aload_n 0, 1) := by decide +kernel
theorem dX6_moveCharge_31 : decode cX6_moveCharge 31 = .ok (.getfield 101, 3) := by decide +kernel
theorem dX6_moveCharge_34 : decode cX6_moveCharge 34 = .ok (.aload_n 0, 1) := by decide +kernel
theorem dX6_moveCharge_35 : decode cX6_moveCharge 35 = .ok (.getfield 20, 3) := by decide +kernel
theorem dX6_moveCharge_38 : decode cX6_moveCharge 38 = .ok (.i2d, 1) := by decide +kernel
theorem dX6_moveCharge_39 : decode cX6_moveCharge 39 = .ok (.dcmp .l, 1) := by decide +kernel
theorem dX6_moveCharge_40 : decode cX6_moveCharge 40 = .ok (.ifCond .le 12, 3) := by decide +kernel
theorem dX6_moveCharge_43 : decode cX6_moveCharge 43 = .ok (.aload_n 0, 1) := by decide +kernel
theorem dX6_moveCharge_44 : decode cX6_moveCharge 44 = .ok (.aload_n 0, 1) := by decide +kernel
theorem dX6_moveCharge_45 : decode cX6_moveCharge 45 = .ok (.getfield 20, 3) := by decide +kernel
theorem dX6_moveCharge_48 : decode cX6_moveCharge 48 = .ok (.i2d, 1) := by decide +kernel
theorem dX6_moveCharge_49 : decode cX6_moveCharge 49 = .ok (.putfield 101, 3) := by decide +kernel
theorem dX6_moveCharge_52 : decode cX6_moveCharge 52 = .ok (.aload_n 0, 1) := by decide +kernel
theorem dX6_moveCharge_53 : decode cX6_moveCharge 53 = .ok (.aload_n 0, 1) := by decide +kernel
theorem dX6_moveCharge_54 : decode cX6_moveCharge 54 = .ok (.getfield 161, 3) := by decide +kernel
theorem dX6_moveCharge_57 : decode cX6_moveCharge 57 = .ok (.aload_n 0, 1) := by decide +kernel
theorem dX6_moveCharge_58 : decode cX6_moveCharge 58 = .ok (.invokevirtual 260, 3) := by decide +kernel
theorem dX6_moveCharge_61 : decode cX6_moveCharge 61 = .ok (.dadd, 1) := by decide +kernel
theorem dX6_moveCharge_62 : decode cX6_moveCharge 62 = .ok (.putfield 161, 3) := by decide +kernel
theorem dX6_moveCharge_65 : decode cX6_moveCharge 65 = .ok (.aload_n 0, 1) := by decide +kernel
theorem dX6_moveCharge_66 : decode cX6_moveCharge 66 = .ok (.getfield 161, 3) := by decide +kernel
theorem dX6_moveCharge_69 : decode cX6_moveCharge 69 = .ok (.ldc2_w 264, 3) := by decide +kernel
theorem dX6_moveCharge_72 : decode cX6_moveCharge 72 = .ok (.dcmp .l, 1) := by decide +kernel
theorem dX6_moveCharge_73 : decode cX6_moveCharge 73 = .ok (.ifCond .lt 15, 3) := by decide +kernel
theorem dX6_moveCharge_76 : decode cX6_moveCharge 76 = .ok (.aload_n 0, 1) := by decide +kernel
theorem dX6_moveCharge_77 : decode cX6_moveCharge 77 = .ok (.aload_n 0, 1) := by decide +kernel
theorem dX6_moveCharge_78 : decode cX6_moveCharge 78 = .ok (.getfield 161, 3) := by decide +kernel
theorem dX6_moveCharge_81 : decode cX6_moveCharge 81 = .ok (.ldc2_w 264, 3) := by decide +kernel
theorem dX6_moveCharge_84 : decode cX6_moveCharge 84 = .ok (.dsub, 1) := by decide +kernel
theorem dX6_moveCharge_85 : decode cX6_moveCharge 85 = .ok (.putfield 161, 3) := by decide +kernel
theorem dX6_moveCharge_88 : decode cX6_moveCharge 88 = .ok (.aload_n 0, 1) := by decide +kernel
theorem dX6_moveCharge_89 : decode cX6_moveCharge 89 = .ok (.aload_n 0, 1) := by decide +kernel
theorem dX6_moveCharge_90 : decode cX6_moveCharge 90 = .ok (.invokevirtual 260, 3) := by decide +kernel
theorem dX6_moveCharge_93 : decode cX6_moveCharge 93 = .ok (.ldc2_w 266, 3) := by decide +kernel
theorem dX6_moveCharge_96 : decode cX6_moveCharge 96 = .ok (.dcmp .g, 1) := by decide +kernel
theorem dX6_moveCharge_97 : decode cX6_moveCharge 97 = .ok (.ifCond .ge 12, 3) := by decide +kernel
theorem dX6_moveCharge_100 : decode cX6_moveCharge 100 = .ok (.aload_n 0, 1) := by decide +kernel
theorem dX6_moveCharge_101 : decode cX6_moveCharge 101 = .ok (.getfield 215, 3) := by decide +kernel
theorem dX6_moveCharge_104 : decode cX6_moveCharge 104 = .ok (.iconst 1, 1) := by decide +kernel
theorem dX6_moveCharge_105 : decode cX6_moveCharge 105 = .ok (.iadd, 1) := by decide +kernel
theorem dX6_moveCharge_106 : decode cX6_moveCharge 106 = .ok (.goto 4, 3) := by decide +kernel
theorem dX6_moveCharge_109 : decode cX6_moveCharge 109 = .ok (.iconst 0, 1) := by decide +kernel
theorem dX6_moveCharge_110 : decode cX6_moveCharge 110 = .ok (.putfield 215, 3) := by decide +kernel
theorem dX6_moveCharge_113 : decode cX6_moveCharge 113 = .ok (.aload_n 0, 1) := by decide +kernel
theorem dX6_moveCharge_114 : decode cX6_moveCharge 114 = .ok (.getfield 215, 3) := by decide +kernel
theorem dX6_moveCharge_117 : decode cX6_moveCharge 117 = .ok (.bipush 60, 2) := by decide +kernel
theorem dX6_moveCharge_119 : decode cX6_moveCharge 119 = .ok (.if_icmp .lt 53, 3) := by decide +kernel
theorem dX6_moveCharge_122 : decode cX6_moveCharge 122 = .ok (.aload_n 0, 1) := by decide +kernel
theorem dX6_moveCharge_123 : decode cX6_moveCharge 123 = .ok (.getfield 30, 3) := by decide +kernel
theorem dX6_moveCharge_126 : decode cX6_moveCharge 126 = .ok (.invokevirtual 268, 3) := by decide +kernel
theorem dX6_moveCharge_129 : decode cX6_moveCharge 129 = .ok (.ifCond .eq 43, 3) := by decide +kernel
theorem dX6_moveCharge_132 : decode cX6_moveCharge 132 = .ok (.aload_n 0, 1) := by decide +kernel
theorem dX6_moveCharge_133 : decode cX6_moveCharge 133 = .ok (.getfield 30, 3) := by decide +kernel
theorem dX6_moveCharge_136 : decode cX6_moveCharge 136 = .ok (.getfield 272, 3) := by decide +kernel
theorem dX6_moveCharge_139 : decode cX6_moveCharge 139 = .ok (.bipush 6, 2) := by decide +kernel
theorem dX6_moveCharge_141 : decode cX6_moveCharge 141 = .ok (.iconst 1, 1) := by decide +kernel
theorem dX6_moveCharge_142 : decode cX6_moveCharge 142 = .ok (.aload_n 0, 1) := by decide +kernel
theorem dX6_moveCharge_143 : decode cX6_moveCharge 143 = .ok (.getfield 15, 3) := by decide +kernel
theorem dX6_moveCharge_146 : decode cX6_moveCharge 146 = .ok (.arraylength, 1) := by decide +kernel
theorem dX6_moveCharge_147 : decode cX6_moveCharge 147 = .ok (.invokestatic 191, 3) := by decide +kernel
theorem dX6_moveCharge_150 : decode cX6_moveCharge 150 = .ok (.imul, 1) := by decide +kernel
theorem dX6_moveCharge_151 : decode cX6_moveCharge 151 = .ok (.idiv, 1) := by decide +kernel
theorem dX6_moveCharge_152 : decode cX6_moveCharge 152 = .ok (.istore_n 1, 1) := by decide +kernel
theorem dX6_moveCharge_153 : decode cX6_moveCharge 153 = .ok (.aload_n 0, 1) := by decide +kernel
theorem dX6_moveCharge_154 : decode cX6_moveCharge 154 = .ok (.aload_n 0, 1) := by decide +kernel
theorem dX6_moveCharge_155 : decode cX6_moveCharge 155 = .ok (.getfield 20, 3) := by decide +kernel
theorem dX6_moveCharge_158 : decode cX6_moveCharge 158 = .ok (.i2d, 1) := by decide +kernel
theorem dX6_moveCharge_159 : decode cX6_moveCharge 159 = .ok (.iload_n 1, 1) := by decide +kernel
theorem dX6_moveCharge_160 : decode cX6_moveCharge 160 = .ok (.invokestatic 275, 3) := by decide +kernel
theorem dX6_moveCharge_163 : decode cX6_moveCharge 163 = .ok (.i2d, 1) := by decide +kernel
theorem dX6_moveCharge_164 : decode cX6_moveCharge 164 = .ok (.dmul, 1) := by decide +kernel
theorem dX6_moveCharge_165 : decode cX6_moveCharge 165 = .ok (.ldc2_w 278, 3) := by decide +kernel
theorem dX6_moveCharge_168 : decode cX6_moveCharge 168 = .ok (.ddiv, 1) := by decide +kernel
theorem dX6_moveCharge_169 : decode cX6_moveCharge 169 = .ok (.putfield 101, 3) := by decide +kernel
theorem dX6_moveCharge_172 : decode cX6_moveCharge 172 = .ok (.return_, 1) := by decide +kernel
theorem dX6_partsAtRest_0 : decode cX6_partsAtRest 0 = .ok (.iload_n 0, 1) := by decide +kernel
theorem dX6_partsAtRest_1 : decode cX6_partsAtRest 1 = .ok (.getstatic 280, 3) := by decide +kernel
theorem dX6_partsAtRest_4 : decode cX6_partsAtRest 4 = .ok (.iconst 0, 1) := by decide +kernel
theorem dX6_partsAtRest_5 : decode cX6_partsAtRest 5 = .ok (.iaload, 1) := by decide +kernel
theorem dX6_partsAtRest_6 : decode cX6_partsAtRest 6 = .ok (.if_icmp .gt 9, 3) := by decide +kernel
theorem dX6_partsAtRest_9 : decode cX6_partsAtRest 9 = .ok (.getstatic 283, 3) := by decide +kernel
theorem dX6_partsAtRest_12 : decode cX6_partsAtRest 12 = .ok (.iconst 0, 1) := by decide +kernel
theorem dX6_partsAtRest_13 : decode cX6_partsAtRest 13 = .ok (.iaload, 1) := by decide +kernel
theorem dX6_partsAtRest_14 : decode cX6_partsAtRest 14 = .ok (.ireturn, 1) := by decide +kernel
theorem dX6_partsAtRest_15 : decode cX6_partsAtRest 15 = .ok (.iconst 1, 1) := by decide +kernel
theorem dX6_partsAtRest_16 : decode cX6_partsAtRest 16 = .ok (.istore_n 1, 1) := by decide +kernel
theorem dX6_partsAtRest_17 : decode cX6_partsAtRest 17 = .ok (.iload_n 1, 1) := by decide +kernel
theorem dX6_partsAtRest_18 : decode cX6_partsAtRest 18 = .ok (.getstatic 280, 3) := by decide +kernel
theorem dX6_partsAtRest_21 : decode cX6_partsAtRest 21 = .ok (.arraylength, 1) := by decide +kernel
theorem dX6_partsAtRest_22 : decode cX6_partsAtRest 22 = .ok (.if_icmp .ge 56, 3) := by decide +kernel
theorem dX6_partsAtRest_25 : decode cX6_partsAtRest 25 = .ok (.iload_n 0, 1) := by decide +kernel
theorem dX6_partsAtRest_26 : decode cX6_partsAtRest 26 = .ok (.getstatic 280, 3) := by decide +kernel
theorem dX6_partsAtRest_29 : decode cX6_partsAtRest 29 = .ok (.iload_n 1, 1) := by decide +kernel
theorem dX6_partsAtRest_30 : decode cX6_partsAtRest 30 = .ok (.iaload, 1) := by decide +kernel
theorem dX6_partsAtRest_31 : decode cX6_partsAtRest 31 = .ok (.if_icmp .ge 41, 3) := by decide +kernel
theorem dX6_partsAtRest_34 : decode cX6_partsAtRest 34 = .ok (.getstatic 280, 3) := by decide +kernel
theorem dX6_partsAtRest_37 : decode cX6_partsAtRest 37 = .ok (.iload_n 1, 1) := by decide +kernel
theorem dX6_partsAtRest_38 : decode cX6_partsAtRest 38 = .ok (.iconst 1, 1) := by decide +kernel
theorem dX6_partsAtRest_39 : decode cX6_partsAtRest 39 = .ok (.isub, 1) := by decide +kernel
theorem dX6_partsAtRest_40 : decode cX6_partsAtRest 40 = .ok (.iaload, 1) := by decide +kernel
theorem dX6_partsAtRest_41 : decode cX6_partsAtRest 41 = .ok (.istore_n 2, 1) := by decide +kernel
theorem dX6_partsAtRest_42 : decode cX6_partsAtRest 42 = .ok (.getstatic 283, 3) := by decide +kernel
theorem dX6_partsAtRest_45 : decode cX6_partsAtRest 45 = .ok (.iload_n 1, 1) := by decide +kernel
theorem dX6_partsAtRest_46 : decode cX6_partsAtRest 46 = .ok (.iconst 1, 1) := by decide +kernel
theorem dX6_partsAtRest_47 : decode cX6_partsAtRest 47 = .ok (.isub, 1) := by decide +kernel
theorem dX6_partsAtRest_48 : decode cX6_partsAtRest 48 = .ok (.iaload, 1) := by decide +kernel
theorem dX6_partsAtRest_49 : decode cX6_partsAtRest 49 = .ok (.istore_n 3, 1) := by decide +kernel
theorem dX6_partsAtRest_50 : decode cX6_partsAtRest 50 = .ok (.iload_n 3, 1) := by decide +kernel
theorem dX6_partsAtRest_51 : decode cX6_partsAtRest 51 = .ok (.getstatic 283, 3) := by decide +kernel
theorem dX6_partsAtRest_54 : decode cX6_partsAtRest 54 = .ok (.iload_n 1, 1) := by decide +kernel
theorem dX6_partsAtRest_55 : decode cX6_partsAtRest 55 = .ok (.iaload, 1) := by decide +kernel
theorem dX6_partsAtRest_56 : decode cX6_partsAtRest 56 = .ok (.iload_n 3, 1) := by decide +kernel
theorem dX6_partsAtRest_57 : decode cX6_partsAtRest 57 = .ok (.isub, 1) := by decide +kernel
theorem dX6_partsAtRest_58 : decode cX6_partsAtRest 58 = .ok (.iload_n 0, 1) := by decide +kernel
theorem dX6_partsAtRest_59 : decode cX6_partsAtRest 59 = .ok (.iload_n 2, 1) := by decide +kernel
theorem dX6_partsAtRest_60 : decode cX6_partsAtRest 60 = .ok (.isub, 1) := by decide +kernel
theorem dX6_partsAtRest_61 : decode cX6_partsAtRest 61 = .ok (.imul, 1) := by decide +kernel
theorem dX6_partsAtRest_62 : decode cX6_partsAtRest 62 = .ok (.getstatic 280, 3) := by decide +kernel
theorem dX6_partsAtRest_65 : decode cX6_partsAtRest 65 = .ok (.iload_n 1, 1) := by decide +kernel
theorem dX6_partsAtRest_66 : decode cX6_partsAtRest 66 = .ok (.iaload, 1) := by decide +kernel
theorem dX6_partsAtRest_67 : decode cX6_partsAtRest 67 = .ok (.iload_n 2, 1) := by decide +kernel
theorem dX6_partsAtRest_68 : decode cX6_partsAtRest 68 = .ok (.isub, 1) := by decide +kernel
theorem dX6_partsAtRest_69 : decode cX6_partsAtRest 69 = .ok (.idiv, 1) := by decide +kernel
theorem dX6_partsAtRest_70 : decode cX6_partsAtRest 70 = .ok (.iadd, 1) := by decide +kernel
theorem dX6_partsAtRest_71 : decode cX6_partsAtRest 71 = .ok (.ireturn, 1) := by decide +kernel
theorem dX6_partsAtRest_72 : decode cX6_partsAtRest 72 = .ok (.iinc 1 1, 3) := by decide +kernel
theorem dX6_partsAtRest_75 : decode cX6_partsAtRest 75 = .ok (.goto (-58), 3) := by decide +kernel
theorem dX6_partsAtRest_78 : decode cX6_partsAtRest 78 = .ok (.sipush 1024, 3) := by decide +kernel
theorem dX6_partsAtRest_81 : decode cX6_partsAtRest 81 = .ok (.ireturn, 1) := by decide +kernel
set_option maxRecDepth 20000 in
theorem ggX6_tellAllowed_X6_heatShare : GoodIn wsX6_tellAllowed wsX6_heatShare := goodIn_r _ [18, 19, 20, 10, 21] (by decide +kernel) (by decide +kernel)
set_option maxRecDepth 20000 in
theorem gX6_tellAllowed_X6_heatShare : GoodIn wsX6_tellAllowed (va_wsS RX6 289 yX6_heatShare wsX6_heatShare) := goodIn_app (goodIn_of _ (by decide +kernel)) ggX6_tellAllowed_X6_heatShare
set_option maxRecDepth 20000 in
theorem ggX6_tellAllowed_X6_coldShare : GoodIn wsX6_tellAllowed wsX6_coldShare := goodIn_r _ [24, 25, 26, 27, 28] (by decide +kernel) (by decide +kernel)
set_option maxRecDepth 20000 in
theorem gX6_tellAllowed_X6_coldShare : GoodIn wsX6_tellAllowed (va_wsS RX6 295 yX6_coldShare wsX6_coldShare) := goodIn_app (goodIn_of _ (by decide +kernel)) ggX6_tellAllowed_X6_coldShare
set_option maxRecDepth 20000 in
theorem ggX6_tellAllowed_X6_chargeShare : GoodIn wsX6_tellAllowed wsX6_chargeShare := goodIn_r _ [32, 33, 13, 34, 35, 36, 37, 17, 38, 39, 40, 41, 42, 43, 44, 45, 46, 47, 48, 49, 50, 51, 52, 53, 54, 55] (by decide +kernel) (by decide +kernel)
set_option maxRecDepth 20000 in
theorem gX6_tellAllowed_X6_chargeShare : GoodIn wsX6_tellAllowed (wsV RX6 300 RX6 yX6_chargeShare wsX6_chargeShare) := goodIn_app (goodIn_of _ (by decide +kernel)) ggX6_tellAllowed_X6_chargeShare
theorem dX6_tellAllowed_0 : decode cX6_tellAllowed 0 = .ok (.aload_n 0, 1) := by decide +kernel
theorem dX6_tellAllowed_1 : decode cX6_tellAllowed 1 = .ok (.getfield 30, 3) := by decide +kernel
theorem dX6_tellAllowed_4 : decode cX6_tellAllowed 4 = .ok (.getfield 286, 3) := by decide +kernel
theorem dX6_tellAllowed_7 : decode cX6_tellAllowed 7 = .ok (.invokestatic 289, 3) := by decide +kernel
theorem dX6_tellAllowed_10 : decode cX6_tellAllowed 10 = .ok (.aload_n 0, 1) := by decide +kernel
theorem dX6_tellAllowed_11 : decode cX6_tellAllowed 11 = .ok (.getfield 30, 3) := by decide +kernel
theorem dX6_tellAllowed_14 : decode cX6_tellAllowed 14 = .ok (.getfield 292, 3) := by decide +kernel
theorem dX6_tellAllowed_17 : decode cX6_tellAllowed 17 = .ok (.invokestatic 295, 3) := by decide +kernel
theorem dX6_tellAllowed_20 : decode cX6_tellAllowed 20 = .ok (.invokestatic 185, 3) := by decide +kernel
theorem dX6_tellAllowed_23 : decode cX6_tellAllowed 23 = .ok (.istore_n 1, 1) := by decide +kernel
theorem dX6_tellAllowed_24 : decode cX6_tellAllowed 24 = .ok (.aload_n 0, 1) := by decide +kernel
theorem dX6_tellAllowed_25 : decode cX6_tellAllowed 25 = .ok (.ldc2_w 298, 3) := by decide +kernel
theorem dX6_tellAllowed_28 : decode cX6_tellAllowed 28 = .ok (.iload_n 1, 1) := by decide +kernel
theorem dX6_tellAllowed_29 : decode cX6_tellAllowed 29 = .ok (.aload_n 0, 1) := by decide +kernel
theorem dX6_tellAllowed_30 : decode cX6_tellAllowed 30 = .ok (.aload_n 0, 1) := by decide +kernel
theorem dX6_tellAllowed_31 : decode cX6_tellAllowed 31 = .ok (.getfield 101, 3) := by decide +kernel
theorem dX6_tellAllowed_34 : decode cX6_tellAllowed 34 = .ok (.invokevirtual 300, 3) := by decide +kernel
theorem dX6_tellAllowed_37 : decode cX6_tellAllowed 37 = .ok (.invokestatic 185, 3) := by decide +kernel
theorem dX6_tellAllowed_40 : decode cX6_tellAllowed 40 = .ok (.i2d, 1) := by decide +kernel
theorem dX6_tellAllowed_41 : decode cX6_tellAllowed 41 = .ok (.dmul, 1) := by decide +kernel
theorem dX6_tellAllowed_42 : decode cX6_tellAllowed 42 = .ok (.ldc2_w 303, 3) := by decide +kernel
theorem dX6_tellAllowed_45 : decode cX6_tellAllowed 45 = .ok (.ddiv, 1) := by decide +kernel
theorem dX6_tellAllowed_46 : decode cX6_tellAllowed 46 = .ok (.putfield 167, 3) := by decide +kernel
theorem dX6_tellAllowed_49 : decode cX6_tellAllowed 49 = .ok (.aload_n 0, 1) := by decide +kernel
theorem dX6_tellAllowed_50 : decode cX6_tellAllowed 50 = .ok (.ldc2_w 305, 3) := by decide +kernel
theorem dX6_tellAllowed_53 : decode cX6_tellAllowed 53 = .ok (.iload_n 1, 1) := by decide +kernel
theorem dX6_tellAllowed_54 : decode cX6_tellAllowed 54 = .ok (.aload_n 0, 1) := by decide +kernel
theorem dX6_tellAllowed_55 : decode cX6_tellAllowed 55 = .ok (.aload_n 0, 1) := by decide +kernel
theorem dX6_tellAllowed_56 : decode cX6_tellAllowed 56 = .ok (.getfield 20, 3) := by decide +kernel
theorem dX6_tellAllowed_59 : decode cX6_tellAllowed 59 = .ok (.i2d, 1) := by decide +kernel
theorem dX6_tellAllowed_60 : decode cX6_tellAllowed 60 = .ok (.aload_n 0, 1) := by decide +kernel
theorem dX6_tellAllowed_61 : decode cX6_tellAllowed 61 = .ok (.getfield 101, 3) := by decide +kernel
theorem dX6_tellAllowed_64 : decode cX6_tellAllowed 64 = .ok (.dsub, 1) := by decide +kernel
theorem dX6_tellAllowed_65 : decode cX6_tellAllowed 65 = .ok (.invokevirtual 300, 3) := by decide +kernel
theorem dX6_tellAllowed_68 : decode cX6_tellAllowed 68 = .ok (.invokestatic 185, 3) := by decide +kernel
theorem dX6_tellAllowed_71 : decode cX6_tellAllowed 71 = .ok (.i2d, 1) := by decide +kernel
theorem dX6_tellAllowed_72 : decode cX6_tellAllowed 72 = .ok (.dmul, 1) := by decide +kernel
theorem dX6_tellAllowed_73 : decode cX6_tellAllowed 73 = .ok (.ldc2_w 303, 3) := by decide +kernel
theorem dX6_tellAllowed_76 : decode cX6_tellAllowed 76 = .ok (.ddiv, 1) := by decide +kernel
theorem dX6_tellAllowed_77 : decode cX6_tellAllowed 77 = .ok (.putfield 164, 3) := by decide +kernel
theorem dX6_tellAllowed_80 : decode cX6_tellAllowed 80 = .ok (.return_, 1) := by decide +kernel
theorem dX6_heatShare_0 : decode cX6_heatShare 0 = .ok (.dload_n 0, 1) := by decide +kernel
theorem dX6_heatShare_1 : decode cX6_heatShare 1 = .ok (.ldc2_w 307, 3) := by decide +kernel
theorem dX6_heatShare_4 : decode cX6_heatShare 4 = .ok (.dcmp .g, 1) := by decide +kernel
theorem dX6_heatShare_5 : decode cX6_heatShare 5 = .ok (.ifCond .gt 6, 3) := by decide +kernel
theorem dX6_heatShare_8 : decode cX6_heatShare 8 = .ok (.bipush 64, 2) := by decide +kernel
theorem dX6_heatShare_10 : decode cX6_heatShare 10 = .ok (.ireturn, 1) := by decide +kernel
theorem dX6_heatShare_11 : decode cX6_heatShare 11 = .ok (.dload_n 0, 1) := by decide +kernel
theorem dX6_heatShare_12 : decode cX6_heatShare 12 = .ok (.ldc2_w 309, 3) := by decide +kernel
theorem dX6_heatShare_15 : decode cX6_heatShare 15 = .ok (.dcmp .l, 1) := by decide +kernel
theorem dX6_heatShare_16 : decode cX6_heatShare 16 = .ok (.ifCond .lt 7, 3) := by decide +kernel
theorem dX6_heatShare_19 : decode cX6_heatShare 19 = .ok (.iconst 0, 1) := by decide +kernel
theorem dX6_heatShare_20 : decode cX6_heatShare 20 = .ok (.goto 17, 3) := by decide +kernel
theorem dX6_heatShare_23 : decode cX6_heatShare 23 = .ok (.ldc2_w 303, 3) := by decide +kernel
theorem dX6_heatShare_26 : decode cX6_heatShare 26 = .ok (.ldc2_w 311, 3) := by decide +kernel
theorem dX6_heatShare_29 : decode cX6_heatShare 29 = .ok (.dload_n 0, 1) := by decide +kernel
theorem dX6_heatShare_30 : decode cX6_heatShare 30 = .ok (.ldc2_w 307, 3) := by decide +kernel
theorem dX6_heatShare_33 : decode cX6_heatShare 33 = .ok (.dsub, 1) := by decide +kernel
theorem dX6_heatShare_34 : decode cX6_heatShare 34 = .ok (.dmul, 1) := by decide +kernel
theorem dX6_heatShare_35 : decode cX6_heatShare 35 = .ok (.dsub, 1) := by decide +kernel
theorem dX6_heatShare_36 : decode cX6_heatShare 36 = .ok (.d2i, 1) := by decide +kernel
theorem dX6_heatShare_37 : decode cX6_heatShare 37 = .ok (.ireturn, 1) := by decide +kernel
theorem dX6_coldShare_0 : decode cX6_coldShare 0 = .ok (.dload_n 0, 1) := by decide +kernel
theorem dX6_coldShare_1 : decode cX6_coldShare 1 = .ok (.ldc2_w 313, 3) := by decide +kernel
theorem dX6_coldShare_4 : decode cX6_coldShare 4 = .ok (.dcmp .l, 1) := by decide +kernel
theorem dX6_coldShare_5 : decode cX6_coldShare 5 = .ok (.ifCond .lt 6, 3) := by decide +kernel
theorem dX6_coldShare_8 : decode cX6_coldShare 8 = .ok (.bipush 64, 2) := by decide +kernel
theorem dX6_coldShare_10 : decode cX6_coldShare 10 = .ok (.ireturn, 1) := by decide +kernel
theorem dX6_coldShare_11 : decode cX6_coldShare 11 = .ok (.dload_n 0, 1) := by decide +kernel
theorem dX6_coldShare_12 : decode cX6_coldShare 12 = .ok (.ldc2_w 315, 3) := by decide +kernel
theorem dX6_coldShare_15 : decode cX6_coldShare 15 = .ok (.dcmp .g, 1) := by decide +kernel
theorem dX6_coldShare_16 : decode cX6_coldShare 16 = .ok (.ifCond .gt 7, 3) := by decide +kernel
theorem dX6_coldShare_19 : decode cX6_coldShare 19 = .ok (.iconst 0, 1) := by decide +kernel
theorem dX6_coldShare_20 : decode cX6_coldShare 20 = .ok (.goto 13, 3) := by decide +kernel
theorem dX6_coldShare_23 : decode cX6_coldShare 23 = .ok (.ldc2_w 317, 3) := by decide +kernel
theorem dX6_coldShare_26 : decode cX6_coldShare 26 = .ok (.dload_n 0, 1) := by decide +kernel
theorem dX6_coldShare_27 : decode cX6_coldShare 27 = .ok (.ldc2_w 319, 3) := by decide +kernel
theorem dX6_coldShare_30 : decode cX6_coldShare 30 = .ok (.dadd, 1) := by decide +kernel
theorem dX6_coldShare_31 : decode cX6_coldShare 31 = .ok (.dmul, 1) := by decide +kernel
theorem dX6_coldShare_32 : decode cX6_coldShare 32 = .ok (.d2i, 1) := by decide +kernel
theorem dX6_coldShare_33 : decode cX6_coldShare 33 = .ok (.ireturn, 1) := by decide +kernel
set_option maxRecDepth 20000 in
theorem ggX6_chargeShare_X6_wholeCapacities : GoodIn wsX6_chargeShare wsX6_wholeCapacities := goodIn_r _ [8, 2, 9, 10, 11, 12, 13, 14, 15, 16, 17, 18, 19, 20, 21, 22, 23, 24, 25] (by decide +kernel) (by decide +kernel)
set_option maxRecDepth 20000 in
theorem gX6_chargeShare_X6_wholeCapacities : GoodIn wsX6_chargeShare (wsV RX6 157 RX6 yX6_wholeCapacities wsX6_wholeCapacities) := goodIn_app (goodIn_of _ (by decide +kernel)) ggX6_chargeShare_X6_wholeCapacities
theorem dX6_chargeShare_0 : decode cX6_chargeShare 0 = .ok (.ldc2_w 211, 3) := by decide +kernel
theorem dX6_chargeShare_3 : decode cX6_chargeShare 3 = .ok (.dload_n 1, 1) := by decide +kernel
theorem dX6_chargeShare_4 : decode cX6_chargeShare 4 = .ok (.dmul, 1) := by decide +kernel
theorem dX6_chargeShare_5 : decode cX6_chargeShare 5 = .ok (.aload_n 0, 1) := by decide +kernel
theorem dX6_chargeShare_6 : decode cX6_chargeShare 6 = .ok (.getfield 20, 3) := by decide +kernel
theorem dX6_chargeShare_9 : decode cX6_chargeShare 9 = .ok (.i2d, 1) := by decide +kernel
theorem dX6_chargeShare_10 : decode cX6_chargeShare 10 = .ok (.dcmp .l, 1) := by decide +kernel
theorem dX6_chargeShare_11 : decode cX6_chargeShare 11 = .ok (.ifCond .lt 8, 3) := by decide +kernel
theorem dX6_chargeShare_14 : decode cX6_chargeShare 14 = .ok (.bipush 64, 2) := by decide +kernel
theorem dX6_chargeShare_16 : decode cX6_chargeShare 16 = .ok (.goto 12, 3) := by decide +kernel
theorem dX6_chargeShare_19 : decode cX6_chargeShare 19 = .ok (.aload_n 0, 1) := by decide +kernel
theorem dX6_chargeShare_20 : decode cX6_chargeShare 20 = .ok (.ldc2_w 321, 3) := by decide +kernel
theorem dX6_chargeShare_23 : decode cX6_chargeShare 23 = .ok (.dload_n 1, 1) := by decide +kernel
theorem dX6_chargeShare_24 : decode cX6_chargeShare 24 = .ok (.dmul, 1) := by decide +kernel
theorem dX6_chargeShare_25 : decode cX6_chargeShare 25 = .ok (.invokevirtual 157, 3) := by decide +kernel
theorem dX6_chargeShare_28 : decode cX6_chargeShare 28 = .ok (.ireturn, 1) := by decide +kernel
theorem dX6_wholeCapacities_0 : decode cX6_wholeCapacities 0 = .ok (.dload_n 1, 1) := by decide +kernel
theorem dX6_wholeCapacities_1 : decode cX6_wholeCapacities 1 = .ok (.aload_n 0, 1) := by decide +kernel
theorem dX6_wholeCapacities_2 : decode cX6_wholeCapacities 2 = .ok (.getfield 20, 3) := by decide +kernel
theorem dX6_wholeCapacities_5 : decode cX6_wholeCapacities 5 = .ok (.i2d, 1) := by decide +kernel
theorem dX6_wholeCapacities_6 : decode cX6_wholeCapacities 6 = .ok (.ddiv, 1) := by decide +kernel
theorem dX6_wholeCapacities_7 : decode cX6_wholeCapacities 7 = .ok (.d2i, 1) := by decide +kernel
theorem dX6_wholeCapacities_8 : decode cX6_wholeCapacities 8 = .ok (.istore_n 3, 1) := by decide +kernel
theorem dX6_wholeCapacities_9 : decode cX6_wholeCapacities 9 = .ok (.iload_n 3, 1) := by decide +kernel
theorem dX6_wholeCapacities_10 : decode cX6_wholeCapacities 10 = .ok (.i2d, 1) := by decide +kernel
theorem dX6_wholeCapacities_11 : decode cX6_wholeCapacities 11 = .ok (.aload_n 0, 1) := by decide +kernel
theorem dX6_wholeCapacities_12 : decode cX6_wholeCapacities 12 = .ok (.getfield 20, 3) := by decide +kernel
theorem dX6_wholeCapacities_15 : decode cX6_wholeCapacities 15 = .ok (.i2d, 1) := by decide +kernel
theorem dX6_wholeCapacities_16 : decode cX6_wholeCapacities 16 = .ok (.dmul, 1) := by decide +kernel
theorem dX6_wholeCapacities_17 : decode cX6_wholeCapacities 17 = .ok (.dload_n 1, 1) := by decide +kernel
theorem dX6_wholeCapacities_18 : decode cX6_wholeCapacities 18 = .ok (.dcmp .l, 1) := by decide +kernel
theorem dX6_wholeCapacities_19 : decode cX6_wholeCapacities 19 = .ok (.ifCond .le 9, 3) := by decide +kernel
theorem dX6_wholeCapacities_22 : decode cX6_wholeCapacities 22 = .ok (.iload_n 3, 1) := by decide +kernel
theorem dX6_wholeCapacities_23 : decode cX6_wholeCapacities 23 = .ok (.iconst 1, 1) := by decide +kernel
theorem dX6_wholeCapacities_24 : decode cX6_wholeCapacities 24 = .ok (.isub, 1) := by decide +kernel
theorem dX6_wholeCapacities_25 : decode cX6_wholeCapacities 25 = .ok (.goto 4, 3) := by decide +kernel
theorem dX6_wholeCapacities_28 : decode cX6_wholeCapacities 28 = .ok (.iload_n 3, 1) := by decide +kernel
theorem dX6_wholeCapacities_29 : decode cX6_wholeCapacities 29 = .ok (.ireturn, 1) := by decide +kernel
set_option maxRecDepth 20000 in
theorem ggX6_watchCauses_X0_watch : GoodIn wsX6_watchCauses wsX0_watch := goodIn_r _ [20, 21, 22, 23, 24, 25, 26, 27, 28, 29, 19, 30, 31, 32, 33, 34, 35, 36, 54, 55, 56, 57] (by decide +kernel) (by decide +kernel)
set_option maxRecDepth 20000 in
theorem gX6_watchCauses_X0_watch : GoodIn wsX6_watchCauses (wsV RX6 326 RX0 yX0_watch wsX0_watch) := goodIn_app (goodIn_of _ (by decide +kernel)) ggX6_watchCauses_X0_watch
theorem dX6_watchCauses_0 : decode cX6_watchCauses 0 = .ok (.aload_n 0, 1) := by decide +kernel
theorem dX6_watchCauses_1 : decode cX6_watchCauses 1 = .ok (.getfield 39, 3) := by decide +kernel
theorem dX6_watchCauses_4 : decode cX6_watchCauses 4 = .ok (.iconst 0, 1) := by decide +kernel
theorem dX6_watchCauses_5 : decode cX6_watchCauses 5 = .ok (.putfield 254, 3) := by decide +kernel
theorem dX6_watchCauses_8 : decode cX6_watchCauses 8 = .ok (.aload_n 0, 1) := by decide +kernel
theorem dX6_watchCauses_9 : decode cX6_watchCauses 9 = .ok (.getfield 39, 3) := by decide +kernel
theorem dX6_watchCauses_12 : decode cX6_watchCauses 12 = .ok (.iconst 0, 1) := by decide +kernel
theorem dX6_watchCauses_13 : decode cX6_watchCauses 13 = .ok (.aload_n 0, 1) := by decide +kernel
theorem dX6_watchCauses_14 : decode cX6_watchCauses 14 = .ok (.getfield 30, 3) := by decide +kernel
theorem dX6_watchCauses_17 : decode cX6_watchCauses 17 = .ok (.getfield 323, 3) := by decide +kernel
theorem dX6_watchCauses_20 : decode cX6_watchCauses 20 = .ok (.invokevirtual 326, 3) := by decide +kernel
theorem dX6_watchCauses_23 : decode cX6_watchCauses 23 = .ok (.aload_n 0, 1) := by decide +kernel
theorem dX6_watchCauses_24 : decode cX6_watchCauses 24 = .ok (.getfield 39, 3) := by decide +kernel
theorem dX6_watchCauses_27 : decode cX6_watchCauses 27 = .ok (.iconst 1, 1) := by decide +kernel
theorem dX6_watchCauses_28 : decode cX6_watchCauses 28 = .ok (.aload_n 0, 1) := by decide +kernel
theorem dX6_watchCauses_29 : decode cX6_watchCauses 29 = .ok (.getfield 30, 3) := by decide +kernel
theorem dX6_watchCauses_32 : decode cX6_watchCauses 32 = .ok (.getfield 330, 3) := by decide +kernel
theorem dX6_watchCauses_35 : decode cX6_watchCauses 35 = .ok (.invokevirtual 326, 3) := by decide +kernel
theorem dX6_watchCauses_38 : decode cX6_watchCauses 38 = .ok (.aload_n 0, 1) := by decide +kernel
theorem dX6_watchCauses_39 : decode cX6_watchCauses 39 = .ok (.getfield 39, 3) := by decide +kernel
theorem dX6_watchCauses_42 : decode cX6_watchCauses 42 = .ok (.iconst 2, 1) := by decide +kernel
theorem dX6_watchCauses_43 : decode cX6_watchCauses 43 = .ok (.aload_n 0, 1) := by decide +kernel
theorem dX6_watchCauses_44 : decode cX6_watchCauses 44 = .ok (.getfield 30, 3) := by decide +kernel
theorem dX6_watchCauses_47 : decode cX6_watchCauses 47 = .ok (.getfield 333, 3) := by decide +kernel
theorem dX6_watchCauses_50 : decode cX6_watchCauses 50 = .ok (.sipush 4200, 3) := by decide +kernel
theorem dX6_watchCauses_53 : decode cX6_watchCauses 53 = .ok (.if_icmp .le 7, 3) := by decide +kernel
theorem dX6_watchCauses_56 : decode cX6_watchCauses 56 = .ok (.iconst 1, 1) := by decide +kernel
theorem dX6_watchCauses_57 : decode cX6_watchCauses 57 = .ok (.goto 4, 3) := by decide +kernel
theorem dX6_watchCauses_60 : decode cX6_watchCauses 60 = .ok (.iconst 0, 1) := by decide +kernel
theorem dX6_watchCauses_61 : decode cX6_watchCauses 61 = .ok (.invokevirtual 326, 3) := by decide +kernel
theorem dX6_watchCauses_64 : decode cX6_watchCauses 64 = .ok (.aload_n 0, 1) := by decide +kernel
theorem dX6_watchCauses_65 : decode cX6_watchCauses 65 = .ok (.getfield 39, 3) := by decide +kernel
theorem dX6_watchCauses_68 : decode cX6_watchCauses 68 = .ok (.iconst 3, 1) := by decide +kernel
theorem dX6_watchCauses_69 : decode cX6_watchCauses 69 = .ok (.aload_n 0, 1) := by decide +kernel
theorem dX6_watchCauses_70 : decode cX6_watchCauses 70 = .ok (.getfield 30, 3) := by decide +kernel
theorem dX6_watchCauses_73 : decode cX6_watchCauses 73 = .ok (.getfield 336, 3) := by decide +kernel
theorem dX6_watchCauses_76 : decode cX6_watchCauses 76 = .ok (.sipush 2500, 3) := by decide +kernel
theorem dX6_watchCauses_79 : decode cX6_watchCauses 79 = .ok (.if_icmp .ge 7, 3) := by decide +kernel
theorem dX6_watchCauses_82 : decode cX6_watchCauses 82 = .ok (.iconst 1, 1) := by decide +kernel
theorem dX6_watchCauses_83 : decode cX6_watchCauses 83 = .ok (.goto 4, 3) := by decide +kernel
theorem dX6_watchCauses_86 : decode cX6_watchCauses 86 = .ok (.iconst 0, 1) := by decide +kernel
theorem dX6_watchCauses_87 : decode cX6_watchCauses 87 = .ok (.invokevirtual 326, 3) := by decide +kernel
theorem dX6_watchCauses_90 : decode cX6_watchCauses 90 = .ok (.aload_n 0, 1) := by decide +kernel
theorem dX6_watchCauses_91 : decode cX6_watchCauses 91 = .ok (.getfield 39, 3) := by decide +kernel
theorem dX6_watchCauses_94 : decode cX6_watchCauses 94 = .ok (.iconst 4, 1) := by decide +kernel
theorem dX6_watchCauses_95 : decode cX6_watchCauses 95 = .ok (.aload_n 0, 1) := by decide +kernel
theorem dX6_watchCauses_96 : decode cX6_watchCauses 96 = .ok (.getfield 30, 3) := by decide +kernel
theorem dX6_watchCauses_99 : decode cX6_watchCauses 99 = .ok (.getfield 286, 3) := by decide +kernel
theorem dX6_watchCauses_102 : decode cX6_watchCauses 102 = .ok (.ldc2_w 339, 3) := by decide +kernel
theorem dX6_watchCauses_105 : decode cX6_watchCauses 105 = .ok (.dcmp .l, 1) := by decide +kernel
theorem dX6_watchCauses_106 : decode cX6_watchCauses 106 = .ok (.ifCond .le 7, 3) := by decide +kernel
theorem dX6_watchCauses_109 : decode cX6_watchCauses 109 = .ok (.iconst 1, 1) := by decide +kernel
theorem dX6_watchCauses_110 : decode cX6_watchCauses 110 = .ok (.goto 4, 3) := by decide +kernel
theorem dX6_watchCauses_113 : decode cX6_watchCauses 113 = .ok (.iconst 0, 1) := by decide +kernel
theorem dX6_watchCauses_114 : decode cX6_watchCauses 114 = .ok (.invokevirtual 326, 3) := by decide +kernel
theorem dX6_watchCauses_117 : decode cX6_watchCauses 117 = .ok (.aload_n 0, 1) := by decide +kernel
theorem dX6_watchCauses_118 : decode cX6_watchCauses 118 = .ok (.getfield 39, 3) := by decide +kernel
theorem dX6_watchCauses_121 : decode cX6_watchCauses 121 = .ok (.iconst 5, 1) := by decide +kernel
theorem dX6_watchCauses_122 : decode cX6_watchCauses 122 = .ok (.aload_n 0, 1) := by decide +kernel
theorem dX6_watchCauses_123 : decode cX6_watchCauses 123 = .ok (.getfield 30, 3) := by decide +kernel
theorem dX6_watchCauses_126 : decode cX6_watchCauses 126 = .ok (.getfield 292, 3) := by decide +kernel
theorem dX6_watchCauses_129 : decode cX6_watchCauses 129 = .ok (.ldc2_w 341, 3) := by decide +kernel
theorem dX6_watchCauses_132 : decode cX6_watchCauses 132 = .ok (.dcmp .g, 1) := by decide +kernel
theorem dX6_watchCauses_133 : decode cX6_watchCauses 133 = .ok (.ifCond .ge 7, 3) := by decide +kernel
theorem dX6_watchCauses_136 : decode cX6_watchCauses 136 = .ok (.iconst 1, 1) := by decide +kernel
theorem dX6_watchCauses_137 : decode cX6_watchCauses 137 = .ok (.goto 4, 3) := by decide +kernel
theorem dX6_watchCauses_140 : decode cX6_watchCauses 140 = .ok (.iconst 0, 1) := by decide +kernel
theorem dX6_watchCauses_141 : decode cX6_watchCauses 141 = .ok (.invokevirtual 326, 3) := by decide +kernel
theorem dX6_watchCauses_144 : decode cX6_watchCauses 144 = .ok (.aload_n 0, 1) := by decide +kernel
theorem dX6_watchCauses_145 : decode cX6_watchCauses 145 = .ok (.getfield 39, 3) := by decide +kernel
theorem dX6_watchCauses_148 : decode cX6_watchCauses 148 = .ok (.bipush 6, 2) := by decide +kernel
theorem dX6_watchCauses_150 : decode cX6_watchCauses 150 = .ok (.aload_n 0, 1) := by decide +kernel
theorem dX6_watchCauses_151 : decode cX6_watchCauses 151 = .ok (.getfield 74, 3) := by decide +kernel
theorem dX6_watchCauses_154 : decode cX6_watchCauses 154 = .ok (.aload_n 0, 1) := by decide +kernel
theorem dX6_watchCauses_155 : decode cX6_watchCauses 155 = .ok (.getfield 167, 3) := by decide +kernel
theorem dX6_watchCauses_158 : decode cX6_watchCauses 158 = .ok (.ldc2_w 313, 3) := by decide +kernel
theorem dX6_watchCauses_161 : decode cX6_watchCauses 161 = .ok (.dadd, 1) := by decide +kernel
theorem dX6_watchCauses_162 : decode cX6_watchCauses 162 = .ok (.dcmp .l, 1) := by decide +kernel
theorem dX6_watchCauses_163 : decode cX6_watchCauses 163 = .ok (.ifCond .gt 20, 3) := by decide +kernel
theorem dX6_watchCauses_166 : decode cX6_watchCauses 166 = .ok (.aload_n 0, 1) := by decide +kernel
theorem dX6_watchCauses_167 : decode cX6_watchCauses 167 = .ok (.getfield 74, 3) := by decide +kernel
theorem dX6_watchCauses_170 : decode cX6_watchCauses 170 = .ok (.dneg, 1) := by decide +kernel
theorem dX6_watchCauses_171 : decode cX6_watchCauses 171 = .ok (.aload_n 0, 1) := by decide +kernel
theorem dX6_watchCauses_172 : decode cX6_watchCauses 172 = .ok (.getfield 164, 3) := by decide +kernel
theorem dX6_watchCauses_175 : decode cX6_watchCauses 175 = .ok (.ldc2_w 313, 3) := by decide +kernel
theorem dX6_watchCauses_178 : decode cX6_watchCauses 178 = .ok (.dadd, 1) := by decide +kernel
theorem dX6_watchCauses_179 : decode cX6_watchCauses 179 = .ok (.dcmp .l, 1) := by decide +kernel
theorem dX6_watchCauses_180 : decode cX6_watchCauses 180 = .ok (.ifCond .le 7, 3) := by decide +kernel
theorem dX6_watchCauses_183 : decode cX6_watchCauses 183 = .ok (.iconst 1, 1) := by decide +kernel
theorem dX6_watchCauses_184 : decode cX6_watchCauses 184 = .ok (.goto 4, 3) := by decide +kernel
theorem dX6_watchCauses_187 : decode cX6_watchCauses 187 = .ok (.iconst 0, 1) := by decide +kernel
theorem dX6_watchCauses_188 : decode cX6_watchCauses 188 = .ok (.invokevirtual 326, 3) := by decide +kernel
theorem dX6_watchCauses_191 : decode cX6_watchCauses 191 = .ok (.return_, 1) := by decide +kernel
set_option maxRecDepth 20000 in
theorem ggX6_letBleed_X0_anySerious : GoodIn wsX6_letBleed wsX0_anySerious := goodIn_r _ [14, 15, 84, 85, 86, 87] (by decide +kernel) (by decide +kernel)
set_option maxRecDepth 20000 in
theorem gX6_letBleed_X0_anySerious : GoodIn wsX6_letBleed (wsV RX6 343 RX0 yX0_anySerious wsX0_anySerious) := goodIn_app (goodIn_of _ (by decide +kernel)) ggX6_letBleed_X0_anySerious
set_option maxRecDepth 20000 in
theorem ggX6_letBleed_X6_currentSize : GoodIn wsX6_letBleed wsX6_currentSize := goodIn_r _ [20, 21, 50, 51, 52, 53, 54, 55, 56, 57, 58, 59, 60, 61, 62, 63, 64, 65, 66] (by decide +kernel) (by decide +kernel)
set_option maxRecDepth 20000 in
theorem gX6_letBleed_X6_currentSize : GoodIn wsX6_letBleed (wsV RX6 260 RX6 yX6_currentSize wsX6_currentSize) := goodIn_app (goodIn_of _ (by decide +kernel)) ggX6_letBleed_X6_currentSize
set_option maxRecDepth 20000 in
theorem ggX6_letBleed_X3_cellsToBleed : GoodIn wsX6_letBleed wsX3_cellsToBleed := goodIn_r _ [26, 27, 28, 29, 30, 25, 31, 32, 33, 34, 35, 36, 37, 38, 39, 40, 41, 42, 43, 44, 45, 46, 47, 48, 49, 76, 77, 78, 79, 80, 81, 82, 83] (by decide +kernel) (by decide +kernel)
set_option maxRecDepth 20000 in
theorem gX6_letBleed_X3_cellsToBleed : GoodIn wsX6_letBleed (wsV RX6 346 RX3 yX3_cellsToBleed wsX3_cellsToBleed) := goodIn_app (goodIn_of _ (by decide +kernel)) ggX6_letBleed_X3_cellsToBleed
theorem dX6_letBleed_0 : decode cX6_letBleed 0 = .ok (.aload_n 0, 1) := by decide +kernel
theorem dX6_letBleed_1 : decode cX6_letBleed 1 = .ok (.getfield 46, 3) := by decide +kernel
theorem dX6_letBleed_4 : decode cX6_letBleed 4 = .ok (.getfield 110, 3) := by decide +kernel
theorem dX6_letBleed_7 : decode cX6_letBleed 7 = .ok (.ifCond .eq 14, 3) := by decide +kernel
theorem dX6_letBleed_10 : decode cX6_letBleed 10 = .ok (.aload_n 0, 1) := by decide +kernel
theorem dX6_letBleed_11 : decode cX6_letBleed 11 = .ok (.getfield 46, 3) := by decide +kernel
theorem dX6_letBleed_14 : decode cX6_letBleed 14 = .ok (.getfield 110, 3) := by decide +kernel
theorem dX6_letBleed_17 : decode cX6_letBleed 17 = .ok (.iconst 3, 1) := by decide +kernel
theorem dX6_letBleed_18 : decode cX6_letBleed 18 = .ok (.if_icmp .ne 7, 3) := by decide +kernel
theorem dX6_letBleed_21 : decode cX6_letBleed 21 = .ok (.iconst 1, 1) := by decide +kernel
theorem dX6_letBleed_22 : decode cX6_letBleed 22 = .ok (.goto 4, 3) := by decide +kernel
theorem dX6_letBleed_25 : decode cX6_letBleed 25 = .ok (.iconst 0, 1) := by decide +kernel
theorem dX6_letBleed_26 : decode cX6_letBleed 26 = .ok (.istore_n 1, 1) := by decide +kernel
theorem dX6_letBleed_27 : decode cX6_letBleed 27 = .ok (.iload_n 1, 1) := by decide +kernel
theorem dX6_letBleed_28 : decode cX6_letBleed 28 = .ok (.ifCond .eq 28, 3) := by decide +kernel
theorem dX6_letBleed_31 : decode cX6_letBleed 31 = .ok (.aload_n 0, 1) := by decide +kernel
theorem dX6_letBleed_32 : decode cX6_letBleed 32 = .ok (.getfield 39, 3) := by decide +kernel
theorem dX6_letBleed_35 : decode cX6_letBleed 35 = .ok (.invokevirtual 343, 3) := by decide +kernel
theorem dX6_letBleed_38 : decode cX6_letBleed 38 = .ok (.ifCond .ne 18, 3) := by decide +kernel
theorem dX6_letBleed_41 : decode cX6_letBleed 41 = .ok (.aload_n 0, 1) := by decide +kernel
theorem dX6_letBleed_42 : decode cX6_letBleed 42 = .ok (.invokevirtual 260, 3) := by decide +kernel
theorem dX6_letBleed_45 : decode cX6_letBleed 45 = .ok (.ldc2_w 317, 3) := by decide +kernel
theorem dX6_letBleed_48 : decode cX6_letBleed 48 = .ok (.dcmp .g, 1) := by decide +kernel
theorem dX6_letBleed_49 : decode cX6_letBleed 49 = .ok (.ifCond .ge 7, 3) := by decide +kernel
theorem dX6_letBleed_52 : decode cX6_letBleed 52 = .ok (.iconst 1, 1) := by decide +kernel
theorem dX6_letBleed_53 : decode cX6_letBleed 53 = .ok (.goto 4, 3) := by decide +kernel
theorem dX6_letBleed_56 : decode cX6_letBleed 56 = .ok (.iconst 0, 1) := by decide +kernel
theorem dX6_letBleed_57 : decode cX6_letBleed 57 = .ok (.istore_n 2, 1) := by decide +kernel
theorem dX6_letBleed_58 : decode cX6_letBleed 58 = .ok (.aload_n 0, 1) := by decide +kernel
theorem dX6_letBleed_59 : decode cX6_letBleed 59 = .ok (.getfield 15, 3) := by decide +kernel
theorem dX6_letBleed_62 : decode cX6_letBleed 62 = .ok (.astore_n 3, 1) := by decide +kernel
theorem dX6_letBleed_63 : decode cX6_letBleed 63 = .ok (.aload_n 3, 1) := by decide +kernel
theorem dX6_letBleed_64 : decode cX6_letBleed 64 = .ok (.arraylength, 1) := by decide +kernel
theorem dX6_letBleed_65 : decode cX6_letBleed 65 = .ok (.istore 4, 2) := by decide +kernel
theorem dX6_letBleed_67 : decode cX6_letBleed 67 = .ok (.iconst 0, 1) := by decide +kernel
theorem dX6_letBleed_68 : decode cX6_letBleed 68 = .ok (.istore 5, 2) := by decide +kernel
theorem dX6_letBleed_70 : decode cX6_letBleed 70 = .ok (.iload 5, 2) := by decide +kernel
theorem dX6_letBleed_72 : decode cX6_letBleed 72 = .ok (.iload 4, 2) := by decide +kernel
theorem dX6_letBleed_74 : decode cX6_letBleed 74 = .ok (.if_icmp .ge 44, 3) := by decide +kernel
theorem dX6_letBleed_77 : decode cX6_letBleed 77 = .ok (.aload_n 3, 1) := by decide +kernel
theorem dX6_letBleed_78 : decode cX6_letBleed 78 = .ok (.iload 5, 2) := by decide +kernel
theorem dX6_letBleed_80 : decode cX6_letBleed 80 = .ok (.aaload, 1) := by decide +kernel
theorem dX6_letBleed_81 : decode cX6_letBleed 81 = .ok (.astore 6, 2) := by decide +kernel
theorem dX6_letBleed_83 : decode cX6_letBleed 83 = .ok (.aload 6, 2) := by decide +kernel
theorem dX6_letBleed_85 : decode cX6_letBleed 85 = .ok (.iload_n 2, 1) := by decide +kernel
theorem dX6_letBleed_86 : decode cX6_letBleed 86 = .ok (.ifCond .eq 22, 3) := by decide +kernel
theorem dX6_letBleed_89 : decode cX6_letBleed 89 = .ok (.aload 6, 2) := by decide +kernel
theorem dX6_letBleed_91 : decode cX6_letBleed 91 = .ok (.aload_n 0, 1) := by decide +kernel
theorem dX6_letBleed_92 : decode cX6_letBleed 92 = .ok (.getfield 30, 3) := by decide +kernel
theorem dX6_letBleed_95 : decode cX6_letBleed 95 = .ok (.getfield 336, 3) := by decide +kernel
theorem dX6_letBleed_98 : decode cX6_letBleed 98 = .ok (.aload_n 0, 1) := by decide +kernel
theorem dX6_letBleed_99 : decode cX6_letBleed 99 = .ok (.getfield 138, 3) := by decide +kernel
theorem dX6_letBleed_102 : decode cX6_letBleed 102 = .ok (.invokevirtual 346, 3) := by decide +kernel
theorem dX6_letBleed_105 : decode cX6_letBleed 105 = .ok (.goto 4, 3) := by decide +kernel
theorem dX6_letBleed_108 : decode cX6_letBleed 108 = .ok (.iconst 0, 1) := by decide +kernel
theorem dX6_letBleed_109 : decode cX6_letBleed 109 = .ok (.putfield 174, 3) := by decide +kernel
theorem dX6_letBleed_112 : decode cX6_letBleed 112 = .ok (.iinc 5 1, 3) := by decide +kernel
theorem dX6_letBleed_115 : decode cX6_letBleed 115 = .ok (.goto (-45), 3) := by decide +kernel
theorem dX6_letBleed_118 : decode cX6_letBleed 118 = .ok (.return_, 1) := by decide +kernel
set_option maxRecDepth 20000 in
theorem ggX6_writeBlock_X1_write : GoodIn wsX6_writeBlock wsX1_write := goodIn_r _ [14, 15, 16, 17, 18, 19, 20, 21, 13, 22, 23, 24, 25, 26, 27, 28, 29, 30, 31, 32, 33, 34, 35, 36, 37, 38, 39, 40, 41, 42, 43, 44, 45, 69, 70, 71, 72, 73] (by decide +kernel) (by decide +kernel)
set_option maxRecDepth 20000 in
theorem gX6_writeBlock_X1_write : GoodIn wsX6_writeBlock (wsV RX6 349 RX1 yX1_write wsX1_write) := goodIn_app (goodIn_of _ (by decide +kernel)) ggX6_writeBlock_X1_write
theorem dX6_writeBlock_0 : decode cX6_writeBlock 0 = .ok (.aload_n 0, 1) := by decide +kernel
theorem dX6_writeBlock_1 : decode cX6_writeBlock 1 = .ok (.getfield 101, 3) := by decide +kernel
theorem dX6_writeBlock_4 : decode cX6_writeBlock 4 = .ok (.ldc2_w 229, 3) := by decide +kernel
theorem dX6_writeBlock_7 : decode cX6_writeBlock 7 = .ok (.dmul, 1) := by decide +kernel
theorem dX6_writeBlock_8 : decode cX6_writeBlock 8 = .ok (.d2l, 1) := by decide +kernel
theorem dX6_writeBlock_9 : decode cX6_writeBlock 9 = .ok (.lstore_n 1, 1) := by decide +kernel
theorem dX6_writeBlock_10 : decode cX6_writeBlock 10 = .ok (.aload_n 0, 1) := by decide +kernel
theorem dX6_writeBlock_11 : decode cX6_writeBlock 11 = .ok (.getfield 53, 3) := by decide +kernel
theorem dX6_writeBlock_14 : decode cX6_writeBlock 14 = .ok (.aload_n 0, 1) := by decide +kernel
theorem dX6_writeBlock_15 : decode cX6_writeBlock 15 = .ok (.getfield 138, 3) := by decide +kernel
theorem dX6_writeBlock_18 : decode cX6_writeBlock 18 = .ok (.lload_n 1, 1) := by decide +kernel
theorem dX6_writeBlock_19 : decode cX6_writeBlock 19 = .ok (.aload_n 0, 1) := by decide +kernel
theorem dX6_writeBlock_20 : decode cX6_writeBlock 20 = .ok (.getfield 39, 3) := by decide +kernel
theorem dX6_writeBlock_23 : decode cX6_writeBlock 23 = .ok (.getfield 152, 3) := by decide +kernel
theorem dX6_writeBlock_26 : decode cX6_writeBlock 26 = .ok (.aload_n 0, 1) := by decide +kernel
theorem dX6_writeBlock_27 : decode cX6_writeBlock 27 = .ok (.getfield 46, 3) := by decide +kernel
theorem dX6_writeBlock_30 : decode cX6_writeBlock 30 = .ok (.getfield 110, 3) := by decide +kernel
theorem dX6_writeBlock_33 : decode cX6_writeBlock 33 = .ok (.invokevirtual 349, 3) := by decide +kernel
theorem dX6_writeBlock_36 : decode cX6_writeBlock 36 = .ok (.istore_n 3, 1) := by decide +kernel
theorem dX6_writeBlock_37 : decode cX6_writeBlock 37 = .ok (.aload_n 0, 1) := by decide +kernel
theorem dX6_writeBlock_38 : decode cX6_writeBlock 38 = .ok (.iload_n 3, 1) := by decide +kernel
theorem dX6_writeBlock_39 : decode cX6_writeBlock 39 = .ok (.ifCond .ne 7, 3) := by decide +kernel
theorem dX6_writeBlock_42 : decode cX6_writeBlock 42 = .ok (.iconst 1, 1) := by decide +kernel
theorem dX6_writeBlock_43 : decode cX6_writeBlock 43 = .ok (.goto 4, 3) := by decide +kernel
theorem dX6_writeBlock_46 : decode cX6_writeBlock 46 = .ok (.iconst 0, 1) := by decide +kernel
theorem dX6_writeBlock_47 : decode cX6_writeBlock 47 = .ok (.putfield 104, 3) := by decide +kernel
theorem dX6_writeBlock_50 : decode cX6_writeBlock 50 = .ok (.return_, 1) := by decide +kernel
end
section
set_option maxRecDepth 20000 in
theorem ggX7_init_X7_nearest : GoodIn wsX7_init wsX7_nearest := goodIn_r _ [26] (by decide +kernel) (by decide +kernel)
set_option maxRecDepth 20000 in
theorem gX7_init_X7_nearest : GoodIn wsX7_init (va_wsS RX7 45 yX7_nearest wsX7_nearest) := goodIn_app (goodIn_of _ (by decide +kernel)) ggX7_init_X7_nearest
set_option maxRecDepth 20000 in
theorem ggX7_init_X7_begin : GoodIn wsX7_init wsX7_begin := goodIn_r _ [30, 31, 32, 33, 34, 35, 36, 37, 38, 39, 40, 41, 42, 43, 16, 44, 14, 8, 45, 12, 13, 15, 18, 46, 20, 47, 48, 49, 25, 50, 5, 51, 52, 53, 54, 55, 56, 57, 58, 59, 60, 61, 62, 63, 64, 65, 66, 67, 68, 69, 70, 71, 72, 73, 74, 75, 76, 77, 78, 79, 80, 81, 82, 83, 84, 85, 86, 87, 88, 89, 90] (by decide +kernel) (by decide +kernel)
set_option maxRecDepth 20000 in
theorem gX7_init_X7_begin : GoodIn wsX7_init (wsV RX7 67 RX7 yX7_begin wsX7_begin) := goodIn_app (goodIn_of _ (by decide +kernel)) ggX7_init_X7_begin
theorem dX7_init_0 : decode cX7_init 0 = .ok (.aload_n 0, 1) := by decide +kernel
theorem dX7_init_1 : decode cX7_init 1 = .ok (.invokespecial 1, 3) := by decide +kernel
theorem dX7_init_4 : decode cX7_init 4 = .ok (.aload_n 0, 1) := by decide +kernel
theorem dX7_init_5 : decode cX7_init 5 = .ok (.sipush 512, 3) := by decide +kernel
theorem dX7_init_8 : decode cX7_init 8 = .ok (.newarray .int, 2) := by decide +kernel
theorem dX7_init_10 : decode cX7_init 10 = .ok (.putfield 7, 3) := by decide +kernel
theorem dX7_init_13 : decode cX7_init 13 = .ok (.aload_n 0, 1) := by decide +kernel
theorem dX7_init_14 : decode cX7_init 14 = .ok (.bipush 32, 2) := by decide +kernel
theorem dX7_init_16 : decode cX7_init 16 = .ok (.newarray .int, 2) := by decide +kernel
theorem dX7_init_18 : decode cX7_init 18 = .ok (.putfield 13, 3) := by decide +kernel
theorem dX7_init_21 : decode cX7_init 21 = .ok (.aload_n 0, 1) := by decide +kernel
theorem dX7_init_22 : decode cX7_init 22 = .ok (.iconst 4, 1) := by decide +kernel
theorem dX7_init_23 : decode cX7_init 23 = .ok (.newarray .long, 2) := by decide +kernel
theorem dX7_init_25 : decode cX7_init 25 = .ok (.putfield 16, 3) := by decide +kernel
theorem dX7_init_28 : decode cX7_init 28 = .ok (.aload_n 0, 1) := by decide +kernel
theorem dX7_init_29 : decode cX7_init 29 = .ok (.sipush 192, 3) := by decide +kernel
theorem dX7_init_32 : decode cX7_init 32 = .ok (.newarray .int, 2) := by decide +kernel
theorem dX7_init_34 : decode cX7_init 34 = .ok (.putfield 20, 3) := by decide +kernel
theorem dX7_init_37 : decode cX7_init 37 = .ok (.aload_n 0, 1) := by decide +kernel
theorem dX7_init_38 : decode cX7_init 38 = .ok (.bipush 32, 2) := by decide +kernel
theorem dX7_init_40 : decode cX7_init 40 = .ok (.newarray .long, 2) := by decide +kernel
theorem dX7_init_42 : decode cX7_init 42 = .ok (.putfield 23, 3) := by decide +kernel
theorem dX7_init_45 : decode cX7_init 45 = .ok (.aload_n 0, 1) := by decide +kernel
theorem dX7_init_46 : decode cX7_init 46 = .ok (.iconst 4, 1) := by decide +kernel
theorem dX7_init_47 : decode cX7_init 47 = .ok (.newarray .int, 2) := by decide +kernel
theorem dX7_init_49 : decode cX7_init 49 = .ok (.putfield 26, 3) := by decide +kernel
theorem dX7_init_52 : decode cX7_init 52 = .ok (.aload_n 0, 1) := by decide +kernel
theorem dX7_init_53 : decode cX7_init 53 = .ok (.iconst 4, 1) := by decide +kernel
theorem dX7_init_54 : decode cX7_init 54 = .ok (.newarray .int, 2) := by decide +kernel
theorem dX7_init_56 : decode cX7_init 56 = .ok (.putfield 29, 3) := by decide +kernel
theorem dX7_init_59 : decode cX7_init 59 = .ok (.aload_n 0, 1) := by decide +kernel
theorem dX7_init_60 : decode cX7_init 60 = .ok (.iconst 4, 1) := by decide +kernel
theorem dX7_init_61 : decode cX7_init 61 = .ok (.newarray .int, 2) := by decide +kernel
theorem dX7_init_63 : decode cX7_init 63 = .ok (.putfield 32, 3) := by decide +kernel
theorem dX7_init_66 : decode cX7_init 66 = .ok (.aload_n 0, 1) := by decide +kernel
theorem dX7_init_67 : decode cX7_init 67 = .ok (.bipush 7, 2) := by decide +kernel
theorem dX7_init_69 : decode cX7_init 69 = .ok (.newarray .int, 2) := by decide +kernel
theorem dX7_init_71 : decode cX7_init 71 = .ok (.putfield 35, 3) := by decide +kernel
theorem dX7_init_74 : decode cX7_init 74 = .ok (.aload_n 0, 1) := by decide +kernel
theorem dX7_init_75 : decode cX7_init 75 = .ok (.iconst 4, 1) := by decide +kernel
theorem dX7_init_76 : decode cX7_init 76 = .ok (.newarray .int, 2) := by decide +kernel
theorem dX7_init_78 : decode cX7_init 78 = .ok (.putfield 38, 3) := by decide +kernel
theorem dX7_init_81 : decode cX7_init 81 = .ok (.aload_n 0, 1) := by decide +kernel
theorem dX7_init_82 : decode cX7_init 82 = .ok (.bipush 32, 2) := by decide +kernel
theorem dX7_init_84 : decode cX7_init 84 = .ok (.putfield 41, 3) := by decide +kernel
theorem dX7_init_87 : decode cX7_init 87 = .ok (.aload_n 0, 1) := by decide +kernel
theorem dX7_init_88 : decode cX7_init 88 = .ok (.iload_n 1, 1) := by decide +kernel
theorem dX7_init_89 : decode cX7_init 89 = .ok (.iconst 1, 1) := by decide +kernel
theorem dX7_init_90 : decode cX7_init 90 = .ok (.iconst 4, 1) := by decide +kernel
theorem dX7_init_91 : decode cX7_init 91 = .ok (.invokestatic 45, 3) := by decide +kernel
theorem dX7_init_94 : decode cX7_init 94 = .ok (.putfield 49, 3) := by decide +kernel
theorem dX7_init_97 : decode cX7_init 97 = .ok (.aload_n 0, 1) := by decide +kernel
theorem dX7_init_98 : decode cX7_init 98 = .ok (.iload_n 2, 1) := by decide +kernel
theorem dX7_init_99 : decode cX7_init 99 = .ok (.iconst 2, 1) := by decide +kernel
theorem dX7_init_100 : decode cX7_init 100 = .ok (.bipush 16, 2) := by decide +kernel
theorem dX7_init_102 : decode cX7_init 102 = .ok (.invokestatic 45, 3) := by decide +kernel
theorem dX7_init_105 : decode cX7_init 105 = .ok (.putfield 52, 3) := by decide +kernel
theorem dX7_init_108 : decode cX7_init 108 = .ok (.aload_n 0, 1) := by decide +kernel
theorem dX7_init_109 : decode cX7_init 109 = .ok (.ldc2_w 55, 3) := by decide +kernel
theorem dX7_init_112 : decode cX7_init 112 = .ok (.iload_n 3, 1) := by decide +kernel
theorem dX7_init_113 : decode cX7_init 113 = .ok (.iconst 1, 1) := by decide +kernel
theorem dX7_init_114 : decode cX7_init 114 = .ok (.sipush 4000, 3) := by decide +kernel
theorem dX7_init_117 : decode cX7_init 117 = .ok (.invokestatic 45, 3) := by decide +kernel
theorem dX7_init_120 : decode cX7_init 120 = .ok (.i2l, 1) := by decide +kernel
theorem dX7_init_121 : decode cX7_init 121 = .ok (.lmul, 1) := by decide +kernel
theorem dX7_init_122 : decode cX7_init 122 = .ok (.putfield 57, 3) := by decide +kernel
theorem dX7_init_125 : decode cX7_init 125 = .ok (.aload_n 0, 1) := by decide +kernel
theorem dX7_init_126 : decode cX7_init 126 = .ok (.iload 4, 2) := by decide +kernel
theorem dX7_init_128 : decode cX7_init 128 = .ok (.iconst 1, 1) := by decide +kernel
theorem dX7_init_129 : decode cX7_init 129 = .ok (.bipush 20, 2) := by decide +kernel
theorem dX7_init_131 : decode cX7_init 131 = .ok (.invokestatic 45, 3) := by decide +kernel
theorem dX7_init_134 : decode cX7_init 134 = .ok (.putfield 61, 3) := by decide +kernel
theorem dX7_init_137 : decode cX7_init 137 = .ok (.aload_n 0, 1) := by decide +kernel
theorem dX7_init_138 : decode cX7_init 138 = .ok (.iload 5, 2) := by decide +kernel
theorem dX7_init_140 : decode cX7_init 140 = .ok (.iconst 1, 1) := by decide +kernel
theorem dX7_init_141 : decode cX7_init 141 = .ok (.bipush 50, 2) := by decide +kernel
theorem dX7_init_143 : decode cX7_init 143 = .ok (.invokestatic 45, 3) := by decide +kernel
theorem dX7_init_146 : decode cX7_init 146 = .ok (.putfield 64, 3) := by decide +kernel
theorem dX7_init_149 : decode cX7_init 149 = .ok (.aload_n 0, 1) := by decide +kernel
theorem dX7_init_150 : decode cX7_init 150 = .ok (.invokevirtual 67, 3) := by decide +kernel
theorem dX7_init_153 : decode cX7_init 153 = .ok (.return_, 1) := by decide +kernel
theorem dX7_nearest_0 : decode cX7_nearest 0 = .ok (.iload_n 0, 1) := by decide +kernel
theorem dX7_nearest_1 : decode cX7_nearest 1 = .ok (.iload_n 1, 1) := by decide +kernel
theorem dX7_nearest_2 : decode cX7_nearest 2 = .ok (.if_icmp .ge 7, 3) := by decide +kernel
theorem dX7_nearest_5 : decode cX7_nearest 5 = .ok (.iload_n 1, 1) := by decide +kernel
theorem dX7_nearest_6 : decode cX7_nearest 6 = .ok (.goto 13, 3) := by decide +kernel
theorem dX7_nearest_9 : decode cX7_nearest 9 = .ok (.iload_n 0, 1) := by decide +kernel
theorem dX7_nearest_10 : decode cX7_nearest 10 = .ok (.iload_n 2, 1) := by decide +kernel
theorem dX7_nearest_11 : decode cX7_nearest 11 = .ok (.if_icmp .le 7, 3) := by decide +kernel
theorem dX7_nearest_14 : decode cX7_nearest 14 = .ok (.iload_n 2, 1) := by decide +kernel
theorem dX7_nearest_15 : decode cX7_nearest 15 = .ok (.goto 4, 3) := by decide +kernel
theorem dX7_nearest_18 : decode cX7_nearest 18 = .ok (.iload_n 0, 1) := by decide +kernel
theorem dX7_nearest_19 : decode cX7_nearest 19 = .ok (.ireturn, 1) := by decide +kernel
theorem dX7_thrown_0 : decode cX7_thrown 0 = .ok (.aload_n 0, 1) := by decide +kernel
theorem dX7_thrown_1 : decode cX7_thrown 1 = .ok (.getfield 70, 3) := by decide +kernel
theorem dX7_thrown_4 : decode cX7_thrown 4 = .ok (.ireturn, 1) := by decide +kernel
theorem dX7_chips_0 : decode cX7_chips 0 = .ok (.aload_n 0, 1) := by decide +kernel
theorem dX7_chips_1 : decode cX7_chips 1 = .ok (.iconst 0, 1) := by decide +kernel
theorem dX7_chips_2 : decode cX7_chips 2 = .ok (.putfield 70, 3) := by decide +kernel
theorem dX7_chips_5 : decode cX7_chips 5 = .ok (.aload_n 0, 1) := by decide +kernel
theorem dX7_chips_6 : decode cX7_chips 6 = .ok (.getfield 49, 3) := by decide +kernel
theorem dX7_chips_9 : decode cX7_chips 9 = .ok (.ireturn, 1) := by decide +kernel
theorem dX7_checked_0 : decode cX7_checked 0 = .ok (.iload_n 0, 1) := by decide +kernel
theorem dX7_checked_1 : decode cX7_checked 1 = .ok (.istore_n 2, 1) := by decide +kernel
theorem dX7_checked_2 : decode cX7_checked 2 = .ok (.bipush 7, 2) := by decide +kernel
theorem dX7_checked_4 : decode cX7_checked 4 = .ok (.istore_n 3, 1) := by decide +kernel
theorem dX7_checked_5 : decode cX7_checked 5 = .ok (.iload_n 3, 1) := by decide +kernel
theorem dX7_checked_6 : decode cX7_checked 6 = .ok (.ifCond .lt 53, 3) := by decide +kernel
theorem dX7_checked_9 : decode cX7_checked 9 = .ok (.iload_n 2, 1) := by decide +kernel
theorem dX7_checked_10 : decode cX7_checked 10 = .ok (.bipush 14, 2) := by decide +kernel
theorem dX7_checked_12 : decode cX7_checked 12 = .ok (.ishr, 1) := by decide +kernel
theorem dX7_checked_13 : decode cX7_checked 13 = .ok (.iconst 1, 1) := by decide +kernel
theorem dX7_checked_14 : decode cX7_checked 14 = .ok (.iand, 1) := by decide +kernel
theorem dX7_checked_15 : decode cX7_checked 15 = .ok (.iload_n 1, 1) := by decide +kernel
theorem dX7_checked_16 : decode cX7_checked 16 = .ok (.iload_n 3, 1) := by decide +kernel
theorem dX7_checked_17 : decode cX7_checked 17 = .ok (.ishr, 1) := by decide +kernel
theorem dX7_checked_18 : decode cX7_checked 18 = .ok (.iconst 1, 1) := by decide +kernel
theorem dX7_checked_19 : decode cX7_checked 19 = .ok (.iand, 1) := by decide +kernel
theorem dX7_checked_20 : decode cX7_checked 20 = .ok (.if_icmp .eq 7, 3) := by decide +kernel
theorem dX7_checked_23 : decode cX7_checked 23 = .ok (.iconst 1, 1) := by decide +kernel
theorem dX7_checked_24 : decode cX7_checked 24 = .ok (.goto 4, 3) := by decide +kernel
theorem dX7_checked_27 : decode cX7_checked 27 = .ok (.iconst 0, 1) := by decide +kernel
theorem dX7_checked_28 : decode cX7_checked 28 = .ok (.istore 4, 2) := by decide +kernel
theorem dX7_checked_30 : decode cX7_checked 30 = .ok (.iload_n 2, 1) := by decide +kernel
theorem dX7_checked_31 : decode cX7_checked 31 = .ok (.iconst 1, 1) := by decide +kernel
theorem dX7_checked_32 : decode cX7_checked 32 = .ok (.ishl, 1) := by decide +kernel
theorem dX7_checked_33 : decode cX7_checked 33 = .ok (.sipush 32767, 3) := by decide +kernel
theorem dX7_checked_36 : decode cX7_checked 36 = .ok (.iand, 1) := by decide +kernel
theorem dX7_checked_37 : decode cX7_checked 37 = .ok (.istore_n 2, 1) := by decide +kernel
theorem dX7_checked_38 : decode cX7_checked 38 = .ok (.iload 4, 2) := by decide +kernel
theorem dX7_checked_40 : decode cX7_checked 40 = .ok (.ifCond .eq 11, 3) := by decide +kernel
theorem dX7_checked_43 : decode cX7_checked 43 = .ok (.iload_n 2, 1) := by decide +kernel
theorem dX7_checked_44 : decode cX7_checked 44 = .ok (.sipush 17817, 3) := by decide +kernel
theorem dX7_checked_47 : decode cX7_checked 47 = .ok (.ixor, 1) := by decide +kernel
theorem dX7_checked_48 : decode cX7_checked 48 = .ok (.goto 4, 3) := by decide +kernel
theorem dX7_checked_51 : decode cX7_checked 51 = .ok (.iload_n 2, 1) := by decide +kernel
theorem dX7_checked_52 : decode cX7_checked 52 = .ok (.istore_n 2, 1) := by decide +kernel
theorem dX7_checked_53 : decode cX7_checked 53 = .ok (.iinc 3 (-1), 3) := by decide +kernel
theorem dX7_checked_56 : decode cX7_checked 56 = .ok (.goto (-51), 3) := by decide +kernel
theorem dX7_checked_59 : decode cX7_checked 59 = .ok (.iload_n 2, 1) := by decide +kernel
theorem dX7_checked_60 : decode cX7_checked 60 = .ok (.ireturn, 1) := by decide +kernel
theorem dX7_byteOf_0 : decode cX7_byteOf 0 = .ok (.iload 4, 2) := by decide +kernel
theorem dX7_byteOf_2 : decode cX7_byteOf 2 = .ok (.bipush 8, 2) := by decide +kernel
theorem dX7_byteOf_4 : decode cX7_byteOf 4 = .ok (.if_icmp .ge 7, 3) := by decide +kernel
theorem dX7_byteOf_7 : decode cX7_byteOf 7 = .ok (.lload_n 0, 1) := by decide +kernel
theorem dX7_byteOf_8 : decode cX7_byteOf 8 = .ok (.goto 4, 3) := by decide +kernel
theorem dX7_byteOf_11 : decode cX7_byteOf 11 = .ok (.lload_n 2, 1) := by decide +kernel
theorem dX7_byteOf_12 : decode cX7_byteOf 12 = .ok (.bipush 56, 2) := by decide +kernel
theorem dX7_byteOf_14 : decode cX7_byteOf 14 = .ok (.bipush 8, 2) := by decide +kernel
theorem dX7_byteOf_16 : decode cX7_byteOf 16 = .ok (.iload 4, 2) := by decide +kernel
theorem dX7_byteOf_18 : decode cX7_byteOf 18 = .ok (.bipush 8, 2) := by decide +kernel
theorem dX7_byteOf_20 : decode cX7_byteOf 20 = .ok (.irem, 1) := by decide +kernel
theorem dX7_byteOf_21 : decode cX7_byteOf 21 = .ok (.imul, 1) := by decide +kernel
theorem dX7_byteOf_22 : decode cX7_byteOf 22 = .ok (.isub, 1) := by decide +kernel
theorem dX7_byteOf_23 : decode cX7_byteOf 23 = .ok (.lshr, 1) := by decide +kernel
theorem dX7_byteOf_24 : decode cX7_byteOf 24 = .ok (.l2i, 1) := by decide +kernel
theorem dX7_byteOf_25 : decode cX7_byteOf 25 = .ok (.sipush 255, 3) := by decide +kernel
theorem dX7_byteOf_28 : decode cX7_byteOf 28 = .ok (.iand, 1) := by decide +kernel
theorem dX7_byteOf_29 : decode cX7_byteOf 29 = .ok (.ireturn, 1) := by decide +kernel
set_option maxRecDepth 20000 in
theorem ggX7_sealOf_X7_byteOf : GoodIn wsX7_sealOf wsX7_byteOf := goodIn_r _ [4] (by decide +kernel) (by decide +kernel)
set_option maxRecDepth 20000 in
theorem gX7_sealOf_X7_byteOf : GoodIn wsX7_sealOf (va_wsS RX7 73 yX7_byteOf wsX7_byteOf) := goodIn_app (goodIn_of _ (by decide +kernel)) ggX7_sealOf_X7_byteOf
set_option maxRecDepth 20000 in
theorem ggX7_sealOf_X7_checked : GoodIn wsX7_sealOf wsX7_checked := goodIn_r _ [7] (by decide +kernel) (by decide +kernel)
set_option maxRecDepth 20000 in
theorem gX7_sealOf_X7_checked : GoodIn wsX7_sealOf (va_wsS RX7 77 yX7_checked wsX7_checked) := goodIn_app (goodIn_of _ (by decide +kernel)) ggX7_sealOf_X7_checked
theorem dX7_sealOf_0 : decode cX7_sealOf 0 = .ok (.iconst 0, 1) := by decide +kernel
theorem dX7_sealOf_1 : decode cX7_sealOf 1 = .ok (.istore 4, 2) := by decide +kernel
theorem dX7_sealOf_3 : decode cX7_sealOf 3 = .ok (.iconst 0, 1) := by decide +kernel
theorem dX7_sealOf_4 : decode cX7_sealOf 4 = .ok (.istore 5, 2) := by decide +kernel
theorem dX7_sealOf_6 : decode cX7_sealOf 6 = .ok (.iload 5, 2) := by decide +kernel
theorem dX7_sealOf_8 : decode cX7_sealOf 8 = .ok (.bipush 14, 2) := by decide +kernel
theorem dX7_sealOf_10 : decode cX7_sealOf 10 = .ok (.if_icmp .ge 23, 3) := by decide +kernel
theorem dX7_sealOf_13 : decode cX7_sealOf 13 = .ok (.iload 4, 2) := by decide +kernel
theorem dX7_sealOf_15 : decode cX7_sealOf 15 = .ok (.lload_n 0, 1) := by decide +kernel
theorem dX7_sealOf_16 : decode cX7_sealOf 16 = .ok (.lload_n 2, 1) := by decide +kernel
theorem dX7_sealOf_17 : decode cX7_sealOf 17 = .ok (.iload 5, 2) := by decide +kernel
theorem dX7_sealOf_19 : decode cX7_sealOf 19 = .ok (.invokestatic 73, 3) := by decide +kernel
theorem dX7_sealOf_22 : decode cX7_sealOf 22 = .ok (.invokestatic 77, 3) := by decide +kernel
theorem dX7_sealOf_25 : decode cX7_sealOf 25 = .ok (.istore 4, 2) := by decide +kernel
theorem dX7_sealOf_27 : decode cX7_sealOf 27 = .ok (.iinc 5 1, 3) := by decide +kernel
theorem dX7_sealOf_30 : decode cX7_sealOf 30 = .ok (.goto (-24), 3) := by decide +kernel
theorem dX7_sealOf_33 : decode cX7_sealOf 33 = .ok (.iload 4, 2) := by decide +kernel
theorem dX7_sealOf_35 : decode cX7_sealOf 35 = .ok (.ireturn, 1) := by decide +kernel
set_option maxRecDepth 20000 in
theorem ggX7_seal_X7_sealOf : GoodIn wsX7_seal wsX7_sealOf := goodIn_r _ [5, 6, 7, 4, 8, 9, 10, 11] (by decide +kernel) (by decide +kernel)
set_option maxRecDepth 20000 in
theorem gX7_seal_X7_sealOf : GoodIn wsX7_seal (va_wsS RX7 81 yX7_sealOf wsX7_sealOf) := goodIn_app (goodIn_of _ (by decide +kernel)) ggX7_seal_X7_sealOf
theorem dX7_seal_0 : decode cX7_seal 0 = .ok (.aload_n 0, 1) := by decide +kernel
theorem dX7_seal_1 : decode cX7_seal 1 = .ok (.iconst 0, 1) := by decide +kernel
theorem dX7_seal_2 : decode cX7_seal 2 = .ok (.putfield 70, 3) := by decide +kernel
theorem dX7_seal_5 : decode cX7_seal 5 = .ok (.lload_n 1, 1) := by decide +kernel
theorem dX7_seal_6 : decode cX7_seal 6 = .ok (.lload_n 3, 1) := by decide +kernel
theorem dX7_seal_7 : decode cX7_seal 7 = .ok (.invokestatic 81, 3) := by decide +kernel
theorem dX7_seal_10 : decode cX7_seal 10 = .ok (.ireturn, 1) := by decide +kernel
set_option maxRecDepth 20000 in
theorem ggX7_two_X7_byteOf : GoodIn wsX7_two wsX7_byteOf := goodIn_r _ [4] (by decide +kernel) (by decide +kernel)
set_option maxRecDepth 20000 in
theorem gX7_two_X7_byteOf : GoodIn wsX7_two (va_wsS RX7 73 yX7_byteOf wsX7_byteOf) := goodIn_app (goodIn_of _ (by decide +kernel)) ggX7_two_X7_byteOf
theorem dX7_two_0 : decode cX7_two 0 = .ok (.lload_n 0, 1) := by decide +kernel
theorem dX7_two_1 : decode cX7_two 1 = .ok (.lload_n 2, 1) := by decide +kernel
theorem dX7_two_2 : decode cX7_two 2 = .ok (.iconst 2, 1) := by decide +kernel
theorem dX7_two_3 : decode cX7_two 3 = .ok (.iload 4, 2) := by decide +kernel
theorem dX7_two_5 : decode cX7_two 5 = .ok (.imul, 1) := by decide +kernel
theorem dX7_two_6 : decode cX7_two 6 = .ok (.invokestatic 73, 3) := by decide +kernel
theorem dX7_two_9 : decode cX7_two 9 = .ok (.bipush 8, 2) := by decide +kernel
theorem dX7_two_11 : decode cX7_two 11 = .ok (.ishl, 1) := by decide +kernel
theorem dX7_two_12 : decode cX7_two 12 = .ok (.lload_n 0, 1) := by decide +kernel
theorem dX7_two_13 : decode cX7_two 13 = .ok (.lload_n 2, 1) := by decide +kernel
theorem dX7_two_14 : decode cX7_two 14 = .ok (.iconst 2, 1) := by decide +kernel
theorem dX7_two_15 : decode cX7_two 15 = .ok (.iload 4, 2) := by decide +kernel
theorem dX7_two_17 : decode cX7_two 17 = .ok (.imul, 1) := by decide +kernel
theorem dX7_two_18 : decode cX7_two 18 = .ok (.iconst 1, 1) := by decide +kernel
theorem dX7_two_19 : decode cX7_two 19 = .ok (.iadd, 1) := by decide +kernel
theorem dX7_two_20 : decode cX7_two 20 = .ok (.invokestatic 73, 3) := by decide +kernel
theorem dX7_two_23 : decode cX7_two 23 = .ok (.ior, 1) := by decide +kernel
theorem dX7_two_24 : decode cX7_two 24 = .ok (.ireturn, 1) := by decide +kernel
set_option maxRecDepth 20000 in
theorem ggX7_reply_X7_two : GoodIn wsX7_reply wsX7_two := goodIn_r _ [13, 14, 15, 12, 16] (by decide +kernel) (by decide +kernel)
set_option maxRecDepth 20000 in
theorem gX7_reply_X7_two : GoodIn wsX7_reply (va_wsS RX7 89 yX7_two wsX7_two) := goodIn_app (goodIn_of _ (by decide +kernel)) ggX7_reply_X7_two
set_option maxRecDepth 20000 in
theorem ggX7_reply_X7_sealOf : GoodIn wsX7_reply wsX7_sealOf := goodIn_r _ [19, 14, 15, 12, 16, 20, 21, 22] (by decide +kernel) (by decide +kernel)
set_option maxRecDepth 20000 in
theorem gX7_reply_X7_sealOf : GoodIn wsX7_reply (va_wsS RX7 81 yX7_sealOf wsX7_sealOf) := goodIn_app (goodIn_of _ (by decide +kernel)) ggX7_reply_X7_sealOf
theorem dX7_reply_0 : decode cX7_reply 0 = .ok (.aload_n 0, 1) := by decide +kernel
theorem dX7_reply_1 : decode cX7_reply 1 = .ok (.iload_n 1, 1) := by decide +kernel
theorem dX7_reply_2 : decode cX7_reply 2 = .ok (.ifCond .lt 11, 3) := by decide +kernel
theorem dX7_reply_5 : decode cX7_reply 5 = .ok (.iload_n 1, 1) := by decide +kernel
theorem dX7_reply_6 : decode cX7_reply 6 = .ok (.aload_n 0, 1) := by decide +kernel
theorem dX7_reply_7 : decode cX7_reply 7 = .ok (.getfield 49, 3) := by decide +kernel
theorem dX7_reply_10 : decode cX7_reply 10 = .ok (.if_icmp .lt 7, 3) := by decide +kernel
theorem dX7_reply_13 : decode cX7_reply 13 = .ok (.iconst 1, 1) := by decide +kernel
theorem dX7_reply_14 : decode cX7_reply 14 = .ok (.goto 15, 3) := by decide +kernel
theorem dX7_reply_17 : decode cX7_reply 17 = .ok (.aload_n 0, 1) := by decide +kernel
theorem dX7_reply_18 : decode cX7_reply 18 = .ok (.getfield 85, 3) := by decide +kernel
theorem dX7_reply_21 : decode cX7_reply 21 = .ok (.ifCond .eq 7, 3) := by decide +kernel
theorem dX7_reply_24 : decode cX7_reply 24 = .ok (.iconst 2, 1) := by decide +kernel
theorem dX7_reply_25 : decode cX7_reply 25 = .ok (.goto 4, 3) := by decide +kernel
theorem dX7_reply_28 : decode cX7_reply 28 = .ok (.iconst 0, 1) := by decide +kernel
theorem dX7_reply_29 : decode cX7_reply 29 = .ok (.putfield 70, 3) := by decide +kernel
theorem dX7_reply_32 : decode cX7_reply 32 = .ok (.aload_n 0, 1) := by decide +kernel
theorem dX7_reply_33 : decode cX7_reply 33 = .ok (.getfield 70, 3) := by decide +kernel
theorem dX7_reply_36 : decode cX7_reply 36 = .ok (.ifCond .gt 20, 3) := by decide +kernel
theorem dX7_reply_39 : decode cX7_reply 39 = .ok (.lload_n 2, 1) := by decide +kernel
theorem dX7_reply_40 : decode cX7_reply 40 = .ok (.lload 4, 2) := by decide +kernel
theorem dX7_reply_42 : decode cX7_reply 42 = .ok (.bipush 7, 2) := by decide +kernel
theorem dX7_reply_44 : decode cX7_reply 44 = .ok (.invokestatic 89, 3) := by decide +kernel
theorem dX7_reply_47 : decode cX7_reply 47 = .ok (.lload_n 2, 1) := by decide +kernel
theorem dX7_reply_48 : decode cX7_reply 48 = .ok (.lload 4, 2) := by decide +kernel
theorem dX7_reply_50 : decode cX7_reply 50 = .ok (.invokestatic 81, 3) := by decide +kernel
theorem dX7_reply_53 : decode cX7_reply 53 = .ok (.if_icmp .eq 5, 3) := by decide +kernel
theorem dX7_reply_56 : decode cX7_reply 56 = .ok (.iconst 0, 1) := by decide +kernel
theorem dX7_reply_57 : decode cX7_reply 57 = .ok (.ireturn, 1) := by decide +kernel
theorem dX7_reply_58 : decode cX7_reply 58 = .ok (.aload_n 0, 1) := by decide +kernel
theorem dX7_reply_59 : decode cX7_reply 59 = .ok (.getfield 29, 3) := by decide +kernel
theorem dX7_reply_62 : decode cX7_reply 62 = .ok (.iload_n 1, 1) := by decide +kernel
theorem dX7_reply_63 : decode cX7_reply 63 = .ok (.iaload, 1) := by decide +kernel
theorem dX7_reply_64 : decode cX7_reply 64 = .ok (.bipush 8, 2) := by decide +kernel
theorem dX7_reply_66 : decode cX7_reply 66 = .ok (.irem, 1) := by decide +kernel
theorem dX7_reply_67 : decode cX7_reply 67 = .ok (.istore 6, 2) := by decide +kernel
theorem dX7_reply_69 : decode cX7_reply 69 = .ok (.iconst 0, 1) := by decide +kernel
theorem dX7_reply_70 : decode cX7_reply 70 = .ok (.istore 7, 2) := by decide +kernel
theorem dX7_reply_72 : decode cX7_reply 72 = .ok (.iload 7, 2) := by decide +kernel
theorem dX7_reply_74 : decode cX7_reply 74 = .ok (.bipush 6, 2) := by decide +kernel
theorem dX7_reply_76 : decode cX7_reply 76 = .ok (.if_icmp .ge 35, 3) := by decide +kernel
theorem dX7_reply_79 : decode cX7_reply 79 = .ok (.aload_n 0, 1) := by decide +kernel
theorem dX7_reply_80 : decode cX7_reply 80 = .ok (.getfield 20, 3) := by decide +kernel
theorem dX7_reply_83 : decode cX7_reply 83 = .ok (.bipush 6, 2) := by decide +kernel
theorem dX7_reply_85 : decode cX7_reply 85 = .ok (.bipush 8, 2) := by decide +kernel
theorem dX7_reply_87 : decode cX7_reply 87 = .ok (.iload_n 1, 1) := by decide +kernel
theorem dX7_reply_88 : decode cX7_reply 88 = .ok (.imul, 1) := by decide +kernel
theorem dX7_reply_89 : decode cX7_reply 89 = .ok (.iload 6, 2) := by decide +kernel
theorem dX7_reply_91 : decode cX7_reply 91 = .ok (.iadd, 1) := by decide +kernel
theorem dX7_reply_92 : decode cX7_reply 92 = .ok (.imul, 1) := by decide +kernel
theorem dX7_reply_93 : decode cX7_reply 93 = .ok (.iload 7, 2) := by decide +kernel
theorem dX7_reply_95 : decode cX7_reply 95 = .ok (.iadd, 1) := by decide +kernel
theorem dX7_reply_96 : decode cX7_reply 96 = .ok (.lload_n 2, 1) := by decide +kernel
theorem dX7_reply_97 : decode cX7_reply 97 = .ok (.lload 4, 2) := by decide +kernel
theorem dX7_reply_99 : decode cX7_reply 99 = .ok (.iload 7, 2) := by decide +kernel
theorem dX7_reply_101 : decode cX7_reply 101 = .ok (.invokestatic 89, 3) := by decide +kernel
theorem dX7_reply_104 : decode cX7_reply 104 = .ok (.iastore, 1) := by decide +kernel
theorem dX7_reply_105 : decode cX7_reply 105 = .ok (.iinc 7 1, 3) := by decide +kernel
theorem dX7_reply_108 : decode cX7_reply 108 = .ok (.goto (-36), 3) := by decide +kernel
theorem dX7_reply_111 : decode cX7_reply 111 = .ok (.aload_n 0, 1) := by decide +kernel
theorem dX7_reply_112 : decode cX7_reply 112 = .ok (.getfield 23, 3) := by decide +kernel
theorem dX7_reply_115 : decode cX7_reply 115 = .ok (.bipush 8, 2) := by decide +kernel
theorem dX7_reply_117 : decode cX7_reply 117 = .ok (.iload_n 1, 1) := by decide +kernel
theorem dX7_reply_118 : decode cX7_reply 118 = .ok (.imul, 1) := by decide +kernel
theorem dX7_reply_119 : decode cX7_reply 119 = .ok (.iload 6, 2) := by decide +kernel
theorem dX7_reply_121 : decode cX7_reply 121 = .ok (.iadd, 1) := by decide +kernel
theorem dX7_reply_122 : decode cX7_reply 122 = .ok (.aload_n 0, 1) := by decide +kernel
theorem dX7_reply_123 : decode cX7_reply 123 = .ok (.getfield 92, 3) := by decide +kernel
theorem dX7_reply_126 : decode cX7_reply 126 = .ok (.lastore, 1) := by decide +kernel
theorem dX7_reply_127 : decode cX7_reply 127 = .ok (.aload_n 0, 1) := by decide +kernel
theorem dX7_reply_128 : decode cX7_reply 128 = .ok (.getfield 26, 3) := by decide +kernel
theorem dX7_reply_131 : decode cX7_reply 131 = .ok (.iload_n 1, 1) := by decide +kernel
theorem dX7_reply_132 : decode cX7_reply 132 = .ok (.lload_n 2, 1) := by decide +kernel
theorem dX7_reply_133 : decode cX7_reply 133 = .ok (.lload 4, 2) := by decide +kernel
theorem dX7_reply_135 : decode cX7_reply 135 = .ok (.bipush 6, 2) := by decide +kernel
theorem dX7_reply_137 : decode cX7_reply 137 = .ok (.invokestatic 89, 3) := by decide +kernel
theorem dX7_reply_140 : decode cX7_reply 140 = .ok (.iastore, 1) := by decide +kernel
theorem dX7_reply_141 : decode cX7_reply 141 = .ok (.aload_n 0, 1) := by decide +kernel
theorem dX7_reply_142 : decode cX7_reply 142 = .ok (.getfield 29, 3) := by decide +kernel
theorem dX7_reply_145 : decode cX7_reply 145 = .ok (.iload_n 1, 1) := by decide +kernel
theorem dX7_reply_146 : decode cX7_reply 146 = .ok (.dup2, 1) := by decide +kernel
theorem dX7_reply_147 : decode cX7_reply 147 = .ok (.iaload, 1) := by decide +kernel
theorem dX7_reply_148 : decode cX7_reply 148 = .ok (.iconst 1, 1) := by decide +kernel
theorem dX7_reply_149 : decode cX7_reply 149 = .ok (.iadd, 1) := by decide +kernel
theorem dX7_reply_150 : decode cX7_reply 150 = .ok (.iastore, 1) := by decide +kernel
theorem dX7_reply_151 : decode cX7_reply 151 = .ok (.aload_n 0, 1) := by decide +kernel
theorem dX7_reply_152 : decode cX7_reply 152 = .ok (.getfield 32, 3) := by decide +kernel
theorem dX7_reply_155 : decode cX7_reply 155 = .ok (.iload_n 1, 1) := by decide +kernel
theorem dX7_reply_156 : decode cX7_reply 156 = .ok (.iconst 0, 1) := by decide +kernel
theorem dX7_reply_157 : decode cX7_reply 157 = .ok (.iastore, 1) := by decide +kernel
theorem dX7_reply_158 : decode cX7_reply 158 = .ok (.iconst 1, 1) := by decide +kernel
theorem dX7_reply_159 : decode cX7_reply 159 = .ok (.ireturn, 1) := by decide +kernel
theorem dX7_current_0 : decode cX7_current 0 = .ok (.aload_n 0, 1) := by decide +kernel
theorem dX7_current_1 : decode cX7_current 1 = .ok (.dload_n 1, 1) := by decide +kernel
theorem dX7_current_2 : decode cX7_current 2 = .ok (.ldc2_w 95, 3) := by decide +kernel
theorem dX7_current_5 : decode cX7_current 5 = .ok (.dcmp .l, 1) := by decide +kernel
theorem dX7_current_6 : decode cX7_current 6 = .ok (.ifCond .lt 11, 3) := by decide +kernel
theorem dX7_current_9 : decode cX7_current 9 = .ok (.dload_n 1, 1) := by decide +kernel
theorem dX7_current_10 : decode cX7_current 10 = .ok (.ldc2_w 97, 3) := by decide +kernel
theorem dX7_current_13 : decode cX7_current 13 = .ok (.dcmp .g, 1) := by decide +kernel
theorem dX7_current_14 : decode cX7_current 14 = .ok (.ifCond .le 7, 3) := by decide +kernel
theorem dX7_current_17 : decode cX7_current 17 = .ok (.iconst 1, 1) := by decide +kernel
theorem dX7_current_18 : decode cX7_current 18 = .ok (.goto 15, 3) := by decide +kernel
theorem dX7_current_21 : decode cX7_current 21 = .ok (.aload_n 0, 1) := by decide +kernel
theorem dX7_current_22 : decode cX7_current 22 = .ok (.getfield 85, 3) := by decide +kernel
theorem dX7_current_25 : decode cX7_current 25 = .ok (.ifCond .eq 7, 3) := by decide +kernel
theorem dX7_current_28 : decode cX7_current 28 = .ok (.iconst 2, 1) := by decide +kernel
theorem dX7_current_29 : decode cX7_current 29 = .ok (.goto 4, 3) := by decide +kernel
theorem dX7_current_32 : decode cX7_current 32 = .ok (.iconst 0, 1) := by decide +kernel
theorem dX7_current_33 : decode cX7_current 33 = .ok (.putfield 70, 3) := by decide +kernel
theorem dX7_current_36 : decode cX7_current 36 = .ok (.aload_n 0, 1) := by decide +kernel
theorem dX7_current_37 : decode cX7_current 37 = .ok (.aload_n 0, 1) := by decide +kernel
theorem dX7_current_38 : decode cX7_current 38 = .ok (.getfield 70, 3) := by decide +kernel
theorem dX7_current_41 : decode cX7_current 41 = .ok (.ifCond .le 10, 3) := by decide +kernel
theorem dX7_current_44 : decode cX7_current 44 = .ok (.aload_n 0, 1) := by decide +kernel
theorem dX7_current_45 : decode cX7_current 45 = .ok (.getfield 92, 3) := by decide +kernel
theorem dX7_current_48 : decode cX7_current 48 = .ok (.goto 9, 3) := by decide +kernel
theorem dX7_current_51 : decode cX7_current 51 = .ok (.dload_n 1, 1) := by decide +kernel
theorem dX7_current_52 : decode cX7_current 52 = .ok (.ldc2_w 99, 3) := by decide +kernel
theorem dX7_current_55 : decode cX7_current 55 = .ok (.dmul, 1) := by decide +kernel
theorem dX7_current_56 : decode cX7_current 56 = .ok (.d2l, 1) := by decide +kernel
theorem dX7_current_57 : decode cX7_current 57 = .ok (.putfield 92, 3) := by decide +kernel
theorem dX7_current_60 : decode cX7_current 60 = .ok (.return_, 1) := by decide +kernel
theorem dX7_warm_0 : decode cX7_warm 0 = .ok (.aload_n 0, 1) := by decide +kernel
theorem dX7_warm_1 : decode cX7_warm 1 = .ok (.iload_n 1, 1) := by decide +kernel
theorem dX7_warm_2 : decode cX7_warm 2 = .ok (.ifCond .lt 11, 3) := by decide +kernel
theorem dX7_warm_5 : decode cX7_warm 5 = .ok (.iload_n 1, 1) := by decide +kernel
theorem dX7_warm_6 : decode cX7_warm 6 = .ok (.aload_n 0, 1) := by decide +kernel
theorem dX7_warm_7 : decode cX7_warm 7 = .ok (.getfield 49, 3) := by decide +kernel
theorem dX7_warm_10 : decode cX7_warm 10 = .ok (.if_icmp .lt 7, 3) := by decide +kernel
theorem dX7_warm_13 : decode cX7_warm 13 = .ok (.iconst 1, 1) := by decide +kernel
theorem dX7_warm_14 : decode cX7_warm 14 = .ok (.goto 35, 3) := by decide +kernel
theorem dX7_warm_17 : decode cX7_warm 17 = .ok (.dload_n 2, 1) := by decide +kernel
theorem dX7_warm_18 : decode cX7_warm 18 = .ok (.ldc2_w 101, 3) := by decide +kernel
theorem dX7_warm_21 : decode cX7_warm 21 = .ok (.dcmp .l, 1) := by decide +kernel
theorem dX7_warm_22 : decode cX7_warm 22 = .ok (.ifCond .lt 11, 3) := by decide +kernel
theorem dX7_warm_25 : decode cX7_warm 25 = .ok (.dload_n 2, 1) := by decide +kernel
theorem dX7_warm_26 : decode cX7_warm 26 = .ok (.ldc2_w 103, 3) := by decide +kernel
theorem dX7_warm_29 : decode cX7_warm 29 = .ok (.dcmp .g, 1) := by decide +kernel
theorem dX7_warm_30 : decode cX7_warm 30 = .ok (.ifCond .le 7, 3) := by decide +kernel
theorem dX7_warm_33 : decode cX7_warm 33 = .ok (.iconst 2, 1) := by decide +kernel
theorem dX7_warm_34 : decode cX7_warm 34 = .ok (.goto 15, 3) := by decide +kernel
theorem dX7_warm_37 : decode cX7_warm 37 = .ok (.aload_n 0, 1) := by decide +kernel
theorem dX7_warm_38 : decode cX7_warm 38 = .ok (.getfield 85, 3) := by decide +kernel
theorem dX7_warm_41 : decode cX7_warm 41 = .ok (.ifCond .eq 7, 3) := by decide +kernel
theorem dX7_warm_44 : decode cX7_warm 44 = .ok (.iconst 3, 1) := by decide +kernel
theorem dX7_warm_45 : decode cX7_warm 45 = .ok (.goto 4, 3) := by decide +kernel
theorem dX7_warm_48 : decode cX7_warm 48 = .ok (.iconst 0, 1) := by decide +kernel
theorem dX7_warm_49 : decode cX7_warm 49 = .ok (.putfield 70, 3) := by decide +kernel
theorem dX7_warm_52 : decode cX7_warm 52 = .ok (.aload_n 0, 1) := by decide +kernel
theorem dX7_warm_53 : decode cX7_warm 53 = .ok (.getfield 70, 3) := by decide +kernel
theorem dX7_warm_56 : decode cX7_warm 56 = .ok (.ifCond .ne 15, 3) := by decide +kernel
theorem dX7_warm_59 : decode cX7_warm 59 = .ok (.aload_n 0, 1) := by decide +kernel
theorem dX7_warm_60 : decode cX7_warm 60 = .ok (.getfield 16, 3) := by decide +kernel
theorem dX7_warm_63 : decode cX7_warm 63 = .ok (.iload_n 1, 1) := by decide +kernel
theorem dX7_warm_64 : decode cX7_warm 64 = .ok (.dload_n 2, 1) := by decide +kernel
theorem dX7_warm_65 : decode cX7_warm 65 = .ok (.ldc2_w 99, 3) := by decide +kernel
theorem dX7_warm_68 : decode cX7_warm 68 = .ok (.dmul, 1) := by decide +kernel
theorem dX7_warm_69 : decode cX7_warm 69 = .ok (.d2l, 1) := by decide +kernel
theorem dX7_warm_70 : decode cX7_warm 70 = .ok (.lastore, 1) := by decide +kernel
theorem dX7_warm_71 : decode cX7_warm 71 = .ok (.return_, 1) := by decide +kernel
theorem dX7_bus_0 : decode cX7_bus 0 = .ok (.aload_n 0, 1) := by decide +kernel
theorem dX7_bus_1 : decode cX7_bus 1 = .ok (.iload_n 1, 1) := by decide +kernel
theorem dX7_bus_2 : decode cX7_bus 2 = .ok (.ifCond .lt 9, 3) := by decide +kernel
theorem dX7_bus_5 : decode cX7_bus 5 = .ok (.iload_n 1, 1) := by decide +kernel
theorem dX7_bus_6 : decode cX7_bus 6 = .ok (.ldc 105, 2) := by decide +kernel
theorem dX7_bus_8 : decode cX7_bus 8 = .ok (.if_icmp .le 7, 3) := by decide +kernel
theorem dX7_bus_11 : decode cX7_bus 11 = .ok (.iconst 1, 1) := by decide +kernel
theorem dX7_bus_12 : decode cX7_bus 12 = .ok (.goto 15, 3) := by decide +kernel
theorem dX7_bus_15 : decode cX7_bus 15 = .ok (.aload_n 0, 1) := by decide +kernel
theorem dX7_bus_16 : decode cX7_bus 16 = .ok (.getfield 85, 3) := by decide +kernel
theorem dX7_bus_19 : decode cX7_bus 19 = .ok (.ifCond .eq 7, 3) := by decide +kernel
theorem dX7_bus_22 : decode cX7_bus 22 = .ok (.iconst 2, 1) := by decide +kernel
theorem dX7_bus_23 : decode cX7_bus 23 = .ok (.goto 4, 3) := by decide +kernel
theorem dX7_bus_26 : decode cX7_bus 26 = .ok (.iconst 0, 1) := by decide +kernel
theorem dX7_bus_27 : decode cX7_bus 27 = .ok (.putfield 70, 3) := by decide +kernel
theorem dX7_bus_30 : decode cX7_bus 30 = .ok (.aload_n 0, 1) := by decide +kernel
theorem dX7_bus_31 : decode cX7_bus 31 = .ok (.aload_n 0, 1) := by decide +kernel
theorem dX7_bus_32 : decode cX7_bus 32 = .ok (.getfield 70, 3) := by decide +kernel
theorem dX7_bus_35 : decode cX7_bus 35 = .ok (.ifCond .le 10, 3) := by decide +kernel
theorem dX7_bus_38 : decode cX7_bus 38 = .ok (.aload_n 0, 1) := by decide +kernel
theorem dX7_bus_39 : decode cX7_bus 39 = .ok (.getfield 106, 3) := by decide +kernel
theorem dX7_bus_42 : decode cX7_bus 42 = .ok (.goto 4, 3) := by decide +kernel
theorem dX7_bus_45 : decode cX7_bus 45 = .ok (.iload_n 1, 1) := by decide +kernel
theorem dX7_bus_46 : decode cX7_bus 46 = .ok (.putfield 106, 3) := by decide +kernel
theorem dX7_bus_49 : decode cX7_bus 49 = .ok (.return_, 1) := by decide +kernel
theorem dX7_want_0 : decode cX7_want 0 = .ok (.aload_n 0, 1) := by decide +kernel
theorem dX7_want_1 : decode cX7_want 1 = .ok (.aload_n 0, 1) := by decide +kernel
theorem dX7_want_2 : decode cX7_want 2 = .ok (.getfield 85, 3) := by decide +kernel
theorem dX7_want_5 : decode cX7_want 5 = .ok (.ifCond .eq 7, 3) := by decide +kernel
theorem dX7_want_8 : decode cX7_want 8 = .ok (.iconst 1, 1) := by decide +kernel
theorem dX7_want_9 : decode cX7_want 9 = .ok (.goto 4, 3) := by decide +kernel
theorem dX7_want_12 : decode cX7_want 12 = .ok (.iconst 0, 1) := by decide +kernel
theorem dX7_want_13 : decode cX7_want 13 = .ok (.putfield 70, 3) := by decide +kernel
theorem dX7_want_16 : decode cX7_want 16 = .ok (.aload_n 0, 1) := by decide +kernel
theorem dX7_want_17 : decode cX7_want 17 = .ok (.aload_n 0, 1) := by decide +kernel
theorem dX7_want_18 : decode cX7_want 18 = .ok (.getfield 70, 3) := by decide +kernel
theorem dX7_want_21 : decode cX7_want 21 = .ok (.ifCond .le 10, 3) := by decide +kernel
theorem dX7_want_24 : decode cX7_want 24 = .ok (.aload_n 0, 1) := by decide +kernel
theorem dX7_want_25 : decode cX7_want 25 = .ok (.getfield 109, 3) := by decide +kernel
theorem dX7_want_28 : decode cX7_want 28 = .ok (.goto 4, 3) := by decide +kernel
theorem dX7_want_31 : decode cX7_want 31 = .ok (.iload_n 1, 1) := by decide +kernel
theorem dX7_want_32 : decode cX7_want 32 = .ok (.putfield 109, 3) := by decide +kernel
theorem dX7_want_35 : decode cX7_want 35 = .ok (.return_, 1) := by decide +kernel
theorem dX7_set_0 : decode cX7_set 0 = .ok (.aload_n 0, 1) := by decide +kernel
theorem dX7_set_1 : decode cX7_set 1 = .ok (.dload_n 1, 1) := by decide +kernel
theorem dX7_set_2 : decode cX7_set 2 = .ok (.dconst 0, 1) := by decide +kernel
theorem dX7_set_3 : decode cX7_set 3 = .ok (.dcmp .l, 1) := by decide +kernel
theorem dX7_set_4 : decode cX7_set 4 = .ok (.ifCond .lt 13, 3) := by decide +kernel
theorem dX7_set_7 : decode cX7_set 7 = .ok (.dload_n 1, 1) := by decide +kernel
theorem dX7_set_8 : decode cX7_set 8 = .ok (.aload_n 0, 1) := by decide +kernel
theorem dX7_set_9 : decode cX7_set 9 = .ok (.getfield 57, 3) := by decide +kernel
theorem dX7_set_12 : decode cX7_set 12 = .ok (.l2d, 1) := by decide +kernel
theorem dX7_set_13 : decode cX7_set 13 = .ok (.dcmp .g, 1) := by decide +kernel
theorem dX7_set_14 : decode cX7_set 14 = .ok (.ifCond .le 7, 3) := by decide +kernel
theorem dX7_set_17 : decode cX7_set 17 = .ok (.iconst 1, 1) := by decide +kernel
theorem dX7_set_18 : decode cX7_set 18 = .ok (.goto 15, 3) := by decide +kernel
theorem dX7_set_21 : decode cX7_set 21 = .ok (.aload_n 0, 1) := by decide +kernel
theorem dX7_set_22 : decode cX7_set 22 = .ok (.getfield 85, 3) := by decide +kernel
theorem dX7_set_25 : decode cX7_set 25 = .ok (.ifCond .eq 7, 3) := by decide +kernel
theorem dX7_set_28 : decode cX7_set 28 = .ok (.iconst 2, 1) := by decide +kernel
theorem dX7_set_29 : decode cX7_set 29 = .ok (.goto 4, 3) := by decide +kernel
theorem dX7_set_32 : decode cX7_set 32 = .ok (.iconst 0, 1) := by decide +kernel
theorem dX7_set_33 : decode cX7_set 33 = .ok (.putfield 70, 3) := by decide +kernel
theorem dX7_set_36 : decode cX7_set 36 = .ok (.aload_n 0, 1) := by decide +kernel
theorem dX7_set_37 : decode cX7_set 37 = .ok (.aload_n 0, 1) := by decide +kernel
theorem dX7_set_38 : decode cX7_set 38 = .ok (.getfield 70, 3) := by decide +kernel
theorem dX7_set_41 : decode cX7_set 41 = .ok (.ifCond .le 10, 3) := by decide +kernel
theorem dX7_set_44 : decode cX7_set 44 = .ok (.aload_n 0, 1) := by decide +kernel
theorem dX7_set_45 : decode cX7_set 45 = .ok (.getfield 112, 3) := by decide +kernel
theorem dX7_set_48 : decode cX7_set 48 = .ok (.goto 9, 3) := by decide +kernel
theorem dX7_set_51 : decode cX7_set 51 = .ok (.dload_n 1, 1) := by decide +kernel
theorem dX7_set_52 : decode cX7_set 52 = .ok (.ldc2_w 115, 3) := by decide +kernel
theorem dX7_set_55 : decode cX7_set 55 = .ok (.dmul, 1) := by decide +kernel
theorem dX7_set_56 : decode cX7_set 56 = .ok (.d2l, 1) := by decide +kernel
theorem dX7_set_57 : decode cX7_set 57 = .ok (.putfield 112, 3) := by decide +kernel
theorem dX7_set_60 : decode cX7_set 60 = .ok (.return_, 1) := by decide +kernel
theorem dX7_isStale_0 : decode cX7_isStale 0 = .ok (.aload_n 0, 1) := by decide +kernel
theorem dX7_isStale_1 : decode cX7_isStale 1 = .ok (.getfield 29, 3) := by decide +kernel
theorem dX7_isStale_4 : decode cX7_isStale 4 = .ok (.iload_n 1, 1) := by decide +kernel
theorem dX7_isStale_5 : decode cX7_isStale 5 = .ok (.iaload, 1) := by decide +kernel
theorem dX7_isStale_6 : decode cX7_isStale 6 = .ok (.ifCond .eq 14, 3) := by decide +kernel
theorem dX7_isStale_9 : decode cX7_isStale 9 = .ok (.aload_n 0, 1) := by decide +kernel
theorem dX7_isStale_10 : decode cX7_isStale 10 = .ok (.getfield 32, 3) := by decide +kernel
theorem dX7_isStale_13 : decode cX7_isStale 13 = .ok (.iload_n 1, 1) := by decide +kernel
theorem dX7_isStale_14 : decode cX7_isStale 14 = .ok (.iaload, 1) := by decide +kernel
theorem dX7_isStale_15 : decode cX7_isStale 15 = .ok (.bipush 10, 2) := by decide +kernel
theorem dX7_isStale_17 : decode cX7_isStale 17 = .ok (.if_icmp .le 7, 3) := by decide +kernel
theorem dX7_isStale_20 : decode cX7_isStale 20 = .ok (.iconst 1, 1) := by decide +kernel
theorem dX7_isStale_21 : decode cX7_isStale 21 = .ok (.goto 4, 3) := by decide +kernel
theorem dX7_isStale_24 : decode cX7_isStale 24 = .ok (.iconst 0, 1) := by decide +kernel
theorem dX7_isStale_25 : decode cX7_isStale 25 = .ok (.ireturn, 1) := by decide +kernel
theorem dX7_numberOf_0 : decode cX7_numberOf 0 = .ok (.aload_n 0, 1) := by decide +kernel
theorem dX7_numberOf_1 : decode cX7_numberOf 1 = .ok (.getfield 29, 3) := by decide +kernel
theorem dX7_numberOf_4 : decode cX7_numberOf 4 = .ok (.iload_n 1, 1) := by decide +kernel
theorem dX7_numberOf_5 : decode cX7_numberOf 5 = .ok (.iaload, 1) := by decide +kernel
theorem dX7_numberOf_6 : decode cX7_numberOf 6 = .ok (.iconst 1, 1) := by decide +kernel
theorem dX7_numberOf_7 : decode cX7_numberOf 7 = .ok (.isub, 1) := by decide +kernel
theorem dX7_numberOf_8 : decode cX7_numberOf 8 = .ok (.iload_n 3, 1) := by decide +kernel
theorem dX7_numberOf_9 : decode cX7_numberOf 9 = .ok (.isub, 1) := by decide +kernel
theorem dX7_numberOf_10 : decode cX7_numberOf 10 = .ok (.bipush 8, 2) := by decide +kernel
theorem dX7_numberOf_12 : decode cX7_numberOf 12 = .ok (.irem, 1) := by decide +kernel
theorem dX7_numberOf_13 : decode cX7_numberOf 13 = .ok (.istore 4, 2) := by decide +kernel
theorem dX7_numberOf_15 : decode cX7_numberOf 15 = .ok (.aload_n 0, 1) := by decide +kernel
theorem dX7_numberOf_16 : decode cX7_numberOf 16 = .ok (.getfield 20, 3) := by decide +kernel
theorem dX7_numberOf_19 : decode cX7_numberOf 19 = .ok (.bipush 6, 2) := by decide +kernel
theorem dX7_numberOf_21 : decode cX7_numberOf 21 = .ok (.bipush 8, 2) := by decide +kernel
theorem dX7_numberOf_23 : decode cX7_numberOf 23 = .ok (.iload_n 1, 1) := by decide +kernel
theorem dX7_numberOf_24 : decode cX7_numberOf 24 = .ok (.imul, 1) := by decide +kernel
theorem dX7_numberOf_25 : decode cX7_numberOf 25 = .ok (.iload 4, 2) := by decide +kernel
theorem dX7_numberOf_27 : decode cX7_numberOf 27 = .ok (.iadd, 1) := by decide +kernel
theorem dX7_numberOf_28 : decode cX7_numberOf 28 = .ok (.imul, 1) := by decide +kernel
theorem dX7_numberOf_29 : decode cX7_numberOf 29 = .ok (.iload_n 2, 1) := by decide +kernel
theorem dX7_numberOf_30 : decode cX7_numberOf 30 = .ok (.iadd, 1) := by decide +kernel
theorem dX7_numberOf_31 : decode cX7_numberOf 31 = .ok (.iaload, 1) := by decide +kernel
theorem dX7_numberOf_32 : decode cX7_numberOf 32 = .ok (.ireturn, 1) := by decide +kernel
set_option maxRecDepth 20000 in
theorem ggX7_isStuck_X7_numberOf : GoodIn wsX7_isStuck wsX7_numberOf := goodIn_r _ [8, 1, 9, 10, 11, 12, 13, 14, 15, 16, 17, 18, 19, 20, 21, 22, 23, 24, 25, 26, 27, 28, 29, 30, 31, 32, 33, 34, 35, 36, 37, 38, 39, 40, 41] (by decide +kernel) (by decide +kernel)
set_option maxRecDepth 20000 in
theorem gX7_isStuck_X7_numberOf : GoodIn wsX7_isStuck (wsV RX7 117 RX7 yX7_numberOf wsX7_numberOf) := goodIn_app (goodIn_of _ (by decide +kernel)) ggX7_isStuck_X7_numberOf
theorem dX7_isStuck_0 : decode cX7_isStuck 0 = .ok (.aload_n 0, 1) := by decide +kernel
theorem dX7_isStuck_1 : decode cX7_isStuck 1 = .ok (.getfield 29, 3) := by decide +kernel
theorem dX7_isStuck_4 : decode cX7_isStuck 4 = .ok (.iload_n 1, 1) := by decide +kernel
theorem dX7_isStuck_5 : decode cX7_isStuck 5 = .ok (.iaload, 1) := by decide +kernel
theorem dX7_isStuck_6 : decode cX7_isStuck 6 = .ok (.bipush 8, 2) := by decide +kernel
theorem dX7_isStuck_8 : decode cX7_isStuck 8 = .ok (.if_icmp .ge 5, 3) := by decide +kernel
theorem dX7_isStuck_11 : decode cX7_isStuck 11 = .ok (.iconst 0, 1) := by decide +kernel
theorem dX7_isStuck_12 : decode cX7_isStuck 12 = .ok (.ireturn, 1) := by decide +kernel
theorem dX7_isStuck_13 : decode cX7_isStuck 13 = .ok (.iconst 1, 1) := by decide +kernel
theorem dX7_isStuck_14 : decode cX7_isStuck 14 = .ok (.istore_n 3, 1) := by decide +kernel
theorem dX7_isStuck_15 : decode cX7_isStuck 15 = .ok (.aload_n 0, 1) := by decide +kernel
theorem dX7_isStuck_16 : decode cX7_isStuck 16 = .ok (.getfield 23, 3) := by decide +kernel
theorem dX7_isStuck_19 : decode cX7_isStuck 19 = .ok (.bipush 8, 2) := by decide +kernel
theorem dX7_isStuck_21 : decode cX7_isStuck 21 = .ok (.iload_n 1, 1) := by decide +kernel
theorem dX7_isStuck_22 : decode cX7_isStuck 22 = .ok (.imul, 1) := by decide +kernel
theorem dX7_isStuck_23 : decode cX7_isStuck 23 = .ok (.laload, 1) := by decide +kernel
theorem dX7_isStuck_24 : decode cX7_isStuck 24 = .ok (.lstore 4, 2) := by decide +kernel
theorem dX7_isStuck_26 : decode cX7_isStuck 26 = .ok (.lload 4, 2) := by decide +kernel
theorem dX7_isStuck_28 : decode cX7_isStuck 28 = .ok (.lstore 6, 2) := by decide +kernel
theorem dX7_isStuck_30 : decode cX7_isStuck 30 = .ok (.iconst 0, 1) := by decide +kernel
theorem dX7_isStuck_31 : decode cX7_isStuck 31 = .ok (.istore 8, 2) := by decide +kernel
theorem dX7_isStuck_33 : decode cX7_isStuck 33 = .ok (.iload 8, 2) := by decide +kernel
theorem dX7_isStuck_35 : decode cX7_isStuck 35 = .ok (.bipush 8, 2) := by decide +kernel
theorem dX7_isStuck_37 : decode cX7_isStuck 37 = .ok (.if_icmp .ge 85, 3) := by decide +kernel
theorem dX7_isStuck_40 : decode cX7_isStuck 40 = .ok (.iload_n 3, 1) := by decide +kernel
theorem dX7_isStuck_41 : decode cX7_isStuck 41 = .ok (.ifCond .eq 25, 3) := by decide +kernel
theorem dX7_isStuck_44 : decode cX7_isStuck 44 = .ok (.aload_n 0, 1) := by decide +kernel
theorem dX7_isStuck_45 : decode cX7_isStuck 45 = .ok (.iload_n 1, 1) := by decide +kernel
theorem dX7_isStuck_46 : decode cX7_isStuck 46 = .ok (.iload_n 2, 1) := by decide +kernel
theorem dX7_isStuck_47 : decode cX7_isStuck 47 = .ok (.iload 8, 2) := by decide +kernel
theorem dX7_isStuck_49 : decode cX7_isStuck 49 = .ok (.invokevirtual 117, 3) := by decide +kernel
theorem dX7_isStuck_52 : decode cX7_isStuck 52 = .ok (.aload_n 0, 1) := by decide +kernel
theorem dX7_isStuck_53 : decode cX7_isStuck 53 = .ok (.iload_n 1, 1) := by decide +kernel
theorem dX7_isStuck_54 : decode cX7_isStuck 54 = .ok (.iload_n 2, 1) := by decide +kernel
theorem dX7_isStuck_55 : decode cX7_isStuck 55 = .ok (.iconst 0, 1) := by decide +kernel
theorem dX7_isStuck_56 : decode cX7_isStuck 56 = .ok (.invokevirtual 117, 3) := by decide +kernel
theorem dX7_isStuck_59 : decode cX7_isStuck 59 = .ok (.if_icmp .ne 7, 3) := by decide +kernel
theorem dX7_isStuck_62 : decode cX7_isStuck 62 = .ok (.iconst 1, 1) := by decide +kernel
theorem dX7_isStuck_63 : decode cX7_isStuck 63 = .ok (.goto 4, 3) := by decide +kernel
theorem dX7_isStuck_66 : decode cX7_isStuck 66 = .ok (.iconst 0, 1) := by decide +kernel
theorem dX7_isStuck_67 : decode cX7_isStuck 67 = .ok (.istore_n 3, 1) := by decide +kernel
theorem dX7_isStuck_68 : decode cX7_isStuck 68 = .ok (.aload_n 0, 1) := by decide +kernel
theorem dX7_isStuck_69 : decode cX7_isStuck 69 = .ok (.getfield 23, 3) := by decide +kernel
theorem dX7_isStuck_72 : decode cX7_isStuck 72 = .ok (.bipush 8, 2) := by decide +kernel
theorem dX7_isStuck_74 : decode cX7_isStuck 74 = .ok (.iload_n 1, 1) := by decide +kernel
theorem dX7_isStuck_75 : decode cX7_isStuck 75 = .ok (.imul, 1) := by decide +kernel
theorem dX7_isStuck_76 : decode cX7_isStuck 76 = .ok (.iload 8, 2) := by decide +kernel
theorem dX7_isStuck_78 : decode cX7_isStuck 78 = .ok (.iadd, 1) := by decide +kernel
theorem dX7_isStuck_79 : decode cX7_isStuck 79 = .ok (.laload, 1) := by decide +kernel
theorem dX7_isStuck_80 : decode cX7_isStuck 80 = .ok (.lstore 9, 2) := by decide +kernel
theorem dX7_isStuck_82 : decode cX7_isStuck 82 = .ok (.lload 9, 2) := by decide +kernel
theorem dX7_isStuck_84 : decode cX7_isStuck 84 = .ok (.lload 4, 2) := by decide +kernel
theorem dX7_isStuck_86 : decode cX7_isStuck 86 = .ok (.lcmp, 1) := by decide +kernel
theorem dX7_isStuck_87 : decode cX7_isStuck 87 = .ok (.ifCond .ge 8, 3) := by decide +kernel
theorem dX7_isStuck_90 : decode cX7_isStuck 90 = .ok (.lload 9, 2) := by decide +kernel
theorem dX7_isStuck_92 : decode cX7_isStuck 92 = .ok (.goto 5, 3) := by decide +kernel
theorem dX7_isStuck_95 : decode cX7_isStuck 95 = .ok (.lload 4, 2) := by decide +kernel
theorem dX7_isStuck_97 : decode cX7_isStuck 97 = .ok (.lstore 4, 2) := by decide +kernel
theorem dX7_isStuck_99 : decode cX7_isStuck 99 = .ok (.lload 9, 2) := by decide +kernel
theorem dX7_isStuck_101 : decode cX7_isStuck 101 = .ok (.lload 6, 2) := by decide +kernel
theorem dX7_isStuck_103 : decode cX7_isStuck 103 = .ok (.lcmp, 1) := by decide +kernel
theorem dX7_isStuck_104 : decode cX7_isStuck 104 = .ok (.ifCond .le 8, 3) := by decide +kernel
theorem dX7_isStuck_107 : decode cX7_isStuck 107 = .ok (.lload 9, 2) := by decide +kernel
theorem dX7_isStuck_109 : decode cX7_isStuck 109 = .ok (.goto 5, 3) := by decide +kernel
theorem dX7_isStuck_112 : decode cX7_isStuck 112 = .ok (.lload 6, 2) := by decide +kernel
theorem dX7_isStuck_114 : decode cX7_isStuck 114 = .ok (.lstore 6, 2) := by decide +kernel
theorem dX7_isStuck_116 : decode cX7_isStuck 116 = .ok (.iinc 8 1, 3) := by decide +kernel
theorem dX7_isStuck_119 : decode cX7_isStuck 119 = .ok (.goto (-86), 3) := by decide +kernel
theorem dX7_isStuck_122 : decode cX7_isStuck 122 = .ok (.iload_n 3, 1) := by decide +kernel
theorem dX7_isStuck_123 : decode cX7_isStuck 123 = .ok (.ifCond .eq 19, 3) := by decide +kernel
theorem dX7_isStuck_126 : decode cX7_isStuck 126 = .ok (.lload 6, 2) := by decide +kernel
theorem dX7_isStuck_128 : decode cX7_isStuck 128 = .ok (.lload 4, 2) := by decide +kernel
theorem dX7_isStuck_130 : decode cX7_isStuck 130 = .ok (.lsub, 1) := by decide +kernel
theorem dX7_isStuck_131 : decode cX7_isStuck 131 = .ok (.ldc2_w 120, 3) := by decide +kernel
theorem dX7_isStuck_134 : decode cX7_isStuck 134 = .ok (.lcmp, 1) := by decide +kernel
theorem dX7_isStuck_135 : decode cX7_isStuck 135 = .ok (.ifCond .le 7, 3) := by decide +kernel
theorem dX7_isStuck_138 : decode cX7_isStuck 138 = .ok (.iconst 1, 1) := by decide +kernel
theorem dX7_isStuck_139 : decode cX7_isStuck 139 = .ok (.goto 4, 3) := by decide +kernel
theorem dX7_isStuck_142 : decode cX7_isStuck 142 = .ok (.iconst 0, 1) := by decide +kernel
theorem dX7_isStuck_143 : decode cX7_isStuck 143 = .ok (.ireturn, 1) := by decide +kernel
set_option maxRecDepth 20000 in
theorem ggX7_isValid_X7_isStale : GoodIn wsX7_isValid wsX7_isStale := goodIn_r _ [6, 7, 8, 20, 21, 22, 23, 24, 25, 26, 27, 28, 29, 30, 31, 32, 33, 34, 35, 36, 37, 38, 39, 40, 41, 42, 43, 44, 45, 46, 47, 48, 49, 50, 51] (by decide +kernel) (by decide +kernel)
set_option maxRecDepth 20000 in
theorem gX7_isValid_X7_isStale : GoodIn wsX7_isValid (wsV RX7 122 RX7 yX7_isStale wsX7_isStale) := goodIn_app (goodIn_of _ (by decide +kernel)) ggX7_isValid_X7_isStale
set_option maxRecDepth 20000 in
theorem ggX7_isValid_X7_numberOf : GoodIn wsX7_isValid wsX7_numberOf := goodIn_r _ [12, 7, 13, 20, 21, 22, 23, 24, 25, 26, 27, 28, 29, 30, 31, 32, 33, 34, 35, 36, 37, 38, 39, 40, 41, 42, 43, 44, 45, 46, 47, 48, 49, 50, 51] (by decide +kernel) (by decide +kernel)
set_option maxRecDepth 20000 in
theorem gX7_isValid_X7_numberOf : GoodIn wsX7_isValid (wsV RX7 117 RX7 yX7_numberOf wsX7_numberOf) := goodIn_app (goodIn_of _ (by decide +kernel)) ggX7_isValid_X7_numberOf
set_option maxRecDepth 20000 in
theorem ggX7_isValid_X7_isStuck : GoodIn wsX7_isValid wsX7_isStuck := goodIn_r _ [17, 7, 18, 19, 9, 10, 11, 5, 12, 13, 20, 21, 22, 23, 24, 25, 26, 27, 28, 29, 30, 31, 32, 33, 34, 35, 36, 37, 38, 39, 40, 41, 42, 43, 44, 45, 46, 47, 48, 49, 50, 51] (by decide +kernel) (by decide +kernel)
set_option maxRecDepth 20000 in
theorem gX7_isValid_X7_isStuck : GoodIn wsX7_isValid (wsV RX7 126 RX7 yX7_isStuck wsX7_isStuck) := goodIn_app (goodIn_of _ (by decide +kernel)) ggX7_isValid_X7_isStuck
theorem dX7_isValid_0 : decode cX7_isValid 0 = .ok (.aload_n 0, 1) := by decide +kernel
theorem dX7_isValid_1 : decode cX7_isValid 1 = .ok (.iload_n 1, 1) := by decide +kernel
theorem dX7_isValid_2 : decode cX7_isValid 2 = .ok (.invokevirtual 122, 3) := by decide +kernel
theorem dX7_isValid_5 : decode cX7_isValid 5 = .ok (.ifCond .eq 5, 3) := by decide +kernel
theorem dX7_isValid_8 : decode cX7_isValid 8 = .ok (.iconst 0, 1) := by decide +kernel
theorem dX7_isValid_9 : decode cX7_isValid 9 = .ok (.ireturn, 1) := by decide +kernel
theorem dX7_isValid_10 : decode cX7_isValid 10 = .ok (.aload_n 0, 1) := by decide +kernel
theorem dX7_isValid_11 : decode cX7_isValid 11 = .ok (.iload_n 1, 1) := by decide +kernel
theorem dX7_isValid_12 : decode cX7_isValid 12 = .ok (.iload_n 2, 1) := by decide +kernel
theorem dX7_isValid_13 : decode cX7_isValid 13 = .ok (.iconst 0, 1) := by decide +kernel
theorem dX7_isValid_14 : decode cX7_isValid 14 = .ok (.invokevirtual 117, 3) := by decide +kernel
theorem dX7_isValid_17 : decode cX7_isValid 17 = .ok (.istore_n 3, 1) := by decide +kernel
theorem dX7_isValid_18 : decode cX7_isValid 18 = .ok (.iload_n 3, 1) := by decide +kernel
theorem dX7_isValid_19 : decode cX7_isValid 19 = .ok (.sipush 500, 3) := by decide +kernel
theorem dX7_isValid_22 : decode cX7_isValid 22 = .ok (.if_icmp .lt 36, 3) := by decide +kernel
theorem dX7_isValid_25 : decode cX7_isValid 25 = .ok (.iload_n 3, 1) := by decide +kernel
theorem dX7_isValid_26 : decode cX7_isValid 26 = .ok (.sipush 4999, 3) := by decide +kernel
theorem dX7_isValid_29 : decode cX7_isValid 29 = .ok (.if_icmp .gt 29, 3) := by decide +kernel
theorem dX7_isValid_32 : decode cX7_isValid 32 = .ok (.aload_n 0, 1) := by decide +kernel
theorem dX7_isValid_33 : decode cX7_isValid 33 = .ok (.getfield 26, 3) := by decide +kernel
theorem dX7_isValid_36 : decode cX7_isValid 36 = .ok (.iload_n 1, 1) := by decide +kernel
theorem dX7_isValid_37 : decode cX7_isValid 37 = .ok (.iaload, 1) := by decide +kernel
theorem dX7_isValid_38 : decode cX7_isValid 38 = .ok (.iload_n 2, 1) := by decide +kernel
theorem dX7_isValid_39 : decode cX7_isValid 39 = .ok (.ishr, 1) := by decide +kernel
theorem dX7_isValid_40 : decode cX7_isValid 40 = .ok (.iconst 1, 1) := by decide +kernel
theorem dX7_isValid_41 : decode cX7_isValid 41 = .ok (.iand, 1) := by decide +kernel
theorem dX7_isValid_42 : decode cX7_isValid 42 = .ok (.ifCond .ne 16, 3) := by decide +kernel
theorem dX7_isValid_45 : decode cX7_isValid 45 = .ok (.aload_n 0, 1) := by decide +kernel
theorem dX7_isValid_46 : decode cX7_isValid 46 = .ok (.iload_n 1, 1) := by decide +kernel
theorem dX7_isValid_47 : decode cX7_isValid 47 = .ok (.iload_n 2, 1) := by decide +kernel
theorem dX7_isValid_48 : decode cX7_isValid 48 = .ok (.invokevirtual 126, 3) := by decide +kernel
theorem dX7_isValid_51 : decode cX7_isValid 51 = .ok (.ifCond .ne 7, 3) := by decide +kernel
theorem dX7_isValid_54 : decode cX7_isValid 54 = .ok (.iconst 1, 1) := by decide +kernel
theorem dX7_isValid_55 : decode cX7_isValid 55 = .ok (.goto 4, 3) := by decide +kernel
theorem dX7_isValid_58 : decode cX7_isValid 58 = .ok (.iconst 0, 1) := by decide +kernel
theorem dX7_isValid_59 : decode cX7_isValid 59 = .ok (.ireturn, 1) := by decide +kernel
set_option maxRecDepth 20000 in
theorem ggX7_areAllValid_X7_isValid : GoodIn wsX7_areAllValid wsX7_isValid := goodIn_r _ [6, 7, 8, 9, 10, 5, 11, 12, 13, 14, 15, 16, 17, 18, 19, 20, 21, 22, 23, 24, 25, 26, 27, 28, 29, 30, 31, 32, 33, 34, 35, 36, 37, 38, 39, 40, 41, 42, 43, 44, 45, 46, 47, 48, 49, 50, 51, 52, 53, 54, 55, 56] (by decide +kernel) (by decide +kernel)
set_option maxRecDepth 20000 in
theorem gX7_areAllValid_X7_isValid : GoodIn wsX7_areAllValid (wsV RX7 130 RX7 yX7_isValid wsX7_isValid) := goodIn_app (goodIn_of _ (by decide +kernel)) ggX7_areAllValid_X7_isValid
theorem dX7_areAllValid_0 : decode cX7_areAllValid 0 = .ok (.iconst 1, 1) := by decide +kernel
theorem dX7_areAllValid_1 : decode cX7_areAllValid 1 = .ok (.istore_n 1, 1) := by decide +kernel
theorem dX7_areAllValid_2 : decode cX7_areAllValid 2 = .ok (.iconst 0, 1) := by decide +kernel
theorem dX7_areAllValid_3 : decode cX7_areAllValid 3 = .ok (.istore_n 2, 1) := by decide +kernel
theorem dX7_areAllValid_4 : decode cX7_areAllValid 4 = .ok (.iload_n 2, 1) := by decide +kernel
theorem dX7_areAllValid_5 : decode cX7_areAllValid 5 = .ok (.bipush 6, 2) := by decide +kernel
theorem dX7_areAllValid_7 : decode cX7_areAllValid 7 = .ok (.aload_n 0, 1) := by decide +kernel
theorem dX7_areAllValid_8 : decode cX7_areAllValid 8 = .ok (.getfield 49, 3) := by decide +kernel
theorem dX7_areAllValid_11 : decode cX7_areAllValid 11 = .ok (.imul, 1) := by decide +kernel
theorem dX7_areAllValid_12 : decode cX7_areAllValid 12 = .ok (.if_icmp .ge 34, 3) := by decide +kernel
theorem dX7_areAllValid_15 : decode cX7_areAllValid 15 = .ok (.iload_n 1, 1) := by decide +kernel
theorem dX7_areAllValid_16 : decode cX7_areAllValid 16 = .ok (.ifCond .eq 22, 3) := by decide +kernel
theorem dX7_areAllValid_19 : decode cX7_areAllValid 19 = .ok (.aload_n 0, 1) := by decide +kernel
theorem dX7_areAllValid_20 : decode cX7_areAllValid 20 = .ok (.iload_n 2, 1) := by decide +kernel
theorem dX7_areAllValid_21 : decode cX7_areAllValid 21 = .ok (.bipush 6, 2) := by decide +kernel
theorem dX7_areAllValid_23 : decode cX7_areAllValid 23 = .ok (.idiv, 1) := by decide +kernel
theorem dX7_areAllValid_24 : decode cX7_areAllValid 24 = .ok (.iload_n 2, 1) := by decide +kernel
theorem dX7_areAllValid_25 : decode cX7_areAllValid 25 = .ok (.bipush 6, 2) := by decide +kernel
theorem dX7_areAllValid_27 : decode cX7_areAllValid 27 = .ok (.irem, 1) := by decide +kernel
theorem dX7_areAllValid_28 : decode cX7_areAllValid 28 = .ok (.invokevirtual 130, 3) := by decide +kernel
theorem dX7_areAllValid_31 : decode cX7_areAllValid 31 = .ok (.ifCond .eq 7, 3) := by decide +kernel
theorem dX7_areAllValid_34 : decode cX7_areAllValid 34 = .ok (.iconst 1, 1) := by decide +kernel
theorem dX7_areAllValid_35 : decode cX7_areAllValid 35 = .ok (.goto 4, 3) := by decide +kernel
theorem dX7_areAllValid_38 : decode cX7_areAllValid 38 = .ok (.iconst 0, 1) := by decide +kernel
theorem dX7_areAllValid_39 : decode cX7_areAllValid 39 = .ok (.istore_n 1, 1) := by decide +kernel
theorem dX7_areAllValid_40 : decode cX7_areAllValid 40 = .ok (.iinc 2 1, 3) := by decide +kernel
theorem dX7_areAllValid_43 : decode cX7_areAllValid 43 = .ok (.goto (-39), 3) := by decide +kernel
theorem dX7_areAllValid_46 : decode cX7_areAllValid 46 = .ok (.iload_n 1, 1) := by decide +kernel
theorem dX7_areAllValid_47 : decode cX7_areAllValid 47 = .ok (.ireturn, 1) := by decide +kernel
set_option maxRecDepth 20000 in
theorem ggX7_sum_X7_isValid : GoodIn wsX7_sum wsX7_isValid := goodIn_r _ [6, 7, 8, 9, 10, 5, 11, 12, 13, 14, 15, 16, 17, 18, 19, 20, 21, 22, 23, 24, 25, 26, 27, 28, 29, 30, 31, 32, 33, 34, 35, 36, 37, 38, 39, 40, 41, 42, 43, 44, 45, 46, 47, 48, 49, 50, 51, 52, 53, 54, 55, 56] (by decide +kernel) (by decide +kernel)
set_option maxRecDepth 20000 in
theorem gX7_sum_X7_isValid : GoodIn wsX7_sum (wsV RX7 130 RX7 yX7_isValid wsX7_isValid) := goodIn_app (goodIn_of _ (by decide +kernel)) ggX7_sum_X7_isValid
set_option maxRecDepth 20000 in
theorem ggX7_sum_X7_numberOf : GoodIn wsX7_sum wsX7_numberOf := goodIn_r _ [17, 12, 18, 25, 26, 27, 28, 29, 30, 31, 32, 33, 34, 35, 36, 37, 38, 39, 40, 41, 42, 43, 44, 45, 46, 47, 48, 49, 50, 51, 52, 53, 54, 55, 56] (by decide +kernel) (by decide +kernel)
set_option maxRecDepth 20000 in
theorem gX7_sum_X7_numberOf : GoodIn wsX7_sum (wsV RX7 117 RX7 yX7_numberOf wsX7_numberOf) := goodIn_app (goodIn_of _ (by decide +kernel)) ggX7_sum_X7_numberOf
theorem dX7_sum_0 : decode cX7_sum 0 = .ok (.iconst 0, 1) := by decide +kernel
theorem dX7_sum_1 : decode cX7_sum 1 = .ok (.istore_n 1, 1) := by decide +kernel
theorem dX7_sum_2 : decode cX7_sum 2 = .ok (.iconst 0, 1) := by decide +kernel
theorem dX7_sum_3 : decode cX7_sum 3 = .ok (.istore_n 2, 1) := by decide +kernel
theorem dX7_sum_4 : decode cX7_sum 4 = .ok (.iload_n 2, 1) := by decide +kernel
theorem dX7_sum_5 : decode cX7_sum 5 = .ok (.bipush 6, 2) := by decide +kernel
theorem dX7_sum_7 : decode cX7_sum 7 = .ok (.aload_n 0, 1) := by decide +kernel
theorem dX7_sum_8 : decode cX7_sum 8 = .ok (.getfield 49, 3) := by decide +kernel
theorem dX7_sum_11 : decode cX7_sum 11 = .ok (.imul, 1) := by decide +kernel
theorem dX7_sum_12 : decode cX7_sum 12 = .ok (.if_icmp .ge 44, 3) := by decide +kernel
theorem dX7_sum_15 : decode cX7_sum 15 = .ok (.aload_n 0, 1) := by decide +kernel
theorem dX7_sum_16 : decode cX7_sum 16 = .ok (.iload_n 2, 1) := by decide +kernel
theorem dX7_sum_17 : decode cX7_sum 17 = .ok (.bipush 6, 2) := by decide +kernel
theorem dX7_sum_19 : decode cX7_sum 19 = .ok (.idiv, 1) := by decide +kernel
theorem dX7_sum_20 : decode cX7_sum 20 = .ok (.iload_n 2, 1) := by decide +kernel
theorem dX7_sum_21 : decode cX7_sum 21 = .ok (.bipush 6, 2) := by decide +kernel
theorem dX7_sum_23 : decode cX7_sum 23 = .ok (.irem, 1) := by decide +kernel
theorem dX7_sum_24 : decode cX7_sum 24 = .ok (.invokevirtual 130, 3) := by decide +kernel
theorem dX7_sum_27 : decode cX7_sum 27 = .ok (.ifCond .eq 21, 3) := by decide +kernel
theorem dX7_sum_30 : decode cX7_sum 30 = .ok (.iload_n 1, 1) := by decide +kernel
theorem dX7_sum_31 : decode cX7_sum 31 = .ok (.aload_n 0, 1) := by decide +kernel
theorem dX7_sum_32 : decode cX7_sum 32 = .ok (.iload_n 2, 1) := by decide +kernel
theorem dX7_sum_33 : decode cX7_sum 33 = .ok (.bipush 6, 2) := by decide +kernel
theorem dX7_sum_35 : decode cX7_sum 35 = .ok (.idiv, 1) := by decide +kernel
theorem dX7_sum_36 : decode cX7_sum 36 = .ok (.iload_n 2, 1) := by decide +kernel
theorem dX7_sum_37 : decode cX7_sum 37 = .ok (.bipush 6, 2) := by decide +kernel
theorem dX7_sum_39 : decode cX7_sum 39 = .ok (.irem, 1) := by decide +kernel
theorem dX7_sum_40 : decode cX7_sum 40 = .ok (.iconst 0, 1) := by decide +kernel
theorem dX7_sum_41 : decode cX7_sum 41 = .ok (.invokevirtual 117, 3) := by decide +kernel
theorem dX7_sum_44 : decode cX7_sum 44 = .ok (.iadd, 1) := by decide +kernel
theorem dX7_sum_45 : decode cX7_sum 45 = .ok (.goto 4, 3) := by decide +kernel
theorem dX7_sum_48 : decode cX7_sum 48 = .ok (.iload_n 1, 1) := by decide +kernel
theorem dX7_sum_49 : decode cX7_sum 49 = .ok (.istore_n 1, 1) := by decide +kernel
theorem dX7_sum_50 : decode cX7_sum 50 = .ok (.iinc 2 1, 3) := by decide +kernel
theorem dX7_sum_53 : decode cX7_sum 53 = .ok (.goto (-49), 3) := by decide +kernel
theorem dX7_sum_56 : decode cX7_sum 56 = .ok (.iload_n 1, 1) := by decide +kernel
theorem dX7_sum_57 : decode cX7_sum 57 = .ok (.ireturn, 1) := by decide +kernel
theorem dX7_knot_0 : decode cX7_knot 0 = .ok (.iload_n 0, 1) := by decide +kernel
theorem dX7_knot_1 : decode cX7_knot 1 = .ok (.ifCond .ne 9, 3) := by decide +kernel
theorem dX7_knot_4 : decode cX7_knot 4 = .ok (.sipush 3000, 3) := by decide +kernel
theorem dX7_knot_7 : decode cX7_knot 7 = .ok (.goto 61, 3) := by decide +kernel
theorem dX7_knot_10 : decode cX7_knot 10 = .ok (.iload_n 0, 1) := by decide +kernel
theorem dX7_knot_11 : decode cX7_knot 11 = .ok (.iconst 1, 1) := by decide +kernel
theorem dX7_knot_12 : decode cX7_knot 12 = .ok (.if_icmp .ne 9, 3) := by decide +kernel
theorem dX7_knot_15 : decode cX7_knot 15 = .ok (.sipush 3300, 3) := by decide +kernel
theorem dX7_knot_18 : decode cX7_knot 18 = .ok (.goto 50, 3) := by decide +kernel
theorem dX7_knot_21 : decode cX7_knot 21 = .ok (.iload_n 0, 1) := by decide +kernel
theorem dX7_knot_22 : decode cX7_knot 22 = .ok (.iconst 2, 1) := by decide +kernel
theorem dX7_knot_23 : decode cX7_knot 23 = .ok (.if_icmp .ne 9, 3) := by decide +kernel
theorem dX7_knot_26 : decode cX7_knot 26 = .ok (.sipush 3500, 3) := by decide +kernel
theorem dX7_knot_29 : decode cX7_knot 29 = .ok (.goto 39, 3) := by decide +kernel
theorem dX7_knot_32 : decode cX7_knot 32 = .ok (.iload_n 0, 1) := by decide +kernel
theorem dX7_knot_33 : decode cX7_knot 33 = .ok (.iconst 3, 1) := by decide +kernel
theorem dX7_knot_34 : decode cX7_knot 34 = .ok (.if_icmp .ne 9, 3) := by decide +kernel
theorem dX7_knot_37 : decode cX7_knot 37 = .ok (.sipush 3650, 3) := by decide +kernel
theorem dX7_knot_40 : decode cX7_knot 40 = .ok (.goto 28, 3) := by decide +kernel
theorem dX7_knot_43 : decode cX7_knot 43 = .ok (.iload_n 0, 1) := by decide +kernel
theorem dX7_knot_44 : decode cX7_knot 44 = .ok (.iconst 4, 1) := by decide +kernel
theorem dX7_knot_45 : decode cX7_knot 45 = .ok (.if_icmp .ne 9, 3) := by decide +kernel
theorem dX7_knot_48 : decode cX7_knot 48 = .ok (.sipush 3800, 3) := by decide +kernel
theorem dX7_knot_51 : decode cX7_knot 51 = .ok (.goto 17, 3) := by decide +kernel
theorem dX7_knot_54 : decode cX7_knot 54 = .ok (.iload_n 0, 1) := by decide +kernel
theorem dX7_knot_55 : decode cX7_knot 55 = .ok (.iconst 5, 1) := by decide +kernel
theorem dX7_knot_56 : decode cX7_knot 56 = .ok (.if_icmp .ne 9, 3) := by decide +kernel
theorem dX7_knot_59 : decode cX7_knot 59 = .ok (.sipush 4000, 3) := by decide +kernel
theorem dX7_knot_62 : decode cX7_knot 62 = .ok (.goto 6, 3) := by decide +kernel
theorem dX7_knot_65 : decode cX7_knot 65 = .ok (.sipush 4150, 3) := by decide +kernel
theorem dX7_knot_68 : decode cX7_knot 68 = .ok (.ireturn, 1) := by decide +kernel
theorem dX7_share_0 : decode cX7_share 0 = .ok (.iload_n 0, 1) := by decide +kernel
theorem dX7_share_1 : decode cX7_share 1 = .ok (.ifCond .ne 7, 3) := by decide +kernel
theorem dX7_share_4 : decode cX7_share 4 = .ok (.iconst 0, 1) := by decide +kernel
theorem dX7_share_5 : decode cX7_share 5 = .ok (.goto 60, 3) := by decide +kernel
theorem dX7_share_8 : decode cX7_share 8 = .ok (.iload_n 0, 1) := by decide +kernel
theorem dX7_share_9 : decode cX7_share 9 = .ok (.iconst 1, 1) := by decide +kernel
theorem dX7_share_10 : decode cX7_share 10 = .ok (.if_icmp .ne 8, 3) := by decide +kernel
theorem dX7_share_13 : decode cX7_share 13 = .ok (.bipush 102, 2) := by decide +kernel
theorem dX7_share_15 : decode cX7_share 15 = .ok (.goto 50, 3) := by decide +kernel
theorem dX7_share_18 : decode cX7_share 18 = .ok (.iload_n 0, 1) := by decide +kernel
theorem dX7_share_19 : decode cX7_share 19 = .ok (.iconst 2, 1) := by decide +kernel
theorem dX7_share_20 : decode cX7_share 20 = .ok (.if_icmp .ne 9, 3) := by decide +kernel
theorem dX7_share_23 : decode cX7_share 23 = .ok (.sipush 256, 3) := by decide +kernel
theorem dX7_share_26 : decode cX7_share 26 = .ok (.goto 39, 3) := by decide +kernel
theorem dX7_share_29 : decode cX7_share 29 = .ok (.iload_n 0, 1) := by decide +kernel
theorem dX7_share_30 : decode cX7_share 30 = .ok (.iconst 3, 1) := by decide +kernel
theorem dX7_share_31 : decode cX7_share 31 = .ok (.if_icmp .ne 9, 3) := by decide +kernel
theorem dX7_share_34 : decode cX7_share 34 = .ok (.sipush 512, 3) := by decide +kernel
theorem dX7_share_37 : decode cX7_share 37 = .ok (.goto 28, 3) := by decide +kernel
theorem dX7_share_40 : decode cX7_share 40 = .ok (.iload_n 0, 1) := by decide +kernel
theorem dX7_share_41 : decode cX7_share 41 = .ok (.iconst 4, 1) := by decide +kernel
theorem dX7_share_42 : decode cX7_share 42 = .ok (.if_icmp .ne 9, 3) := by decide +kernel
theorem dX7_share_45 : decode cX7_share 45 = .ok (.sipush 717, 3) := by decide +kernel
theorem dX7_share_48 : decode cX7_share 48 = .ok (.goto 17, 3) := by decide +kernel
theorem dX7_share_51 : decode cX7_share 51 = .ok (.iload_n 0, 1) := by decide +kernel
theorem dX7_share_52 : decode cX7_share 52 = .ok (.iconst 5, 1) := by decide +kernel
theorem dX7_share_53 : decode cX7_share 53 = .ok (.if_icmp .ne 9, 3) := by decide +kernel
theorem dX7_share_56 : decode cX7_share 56 = .ok (.sipush 922, 3) := by decide +kernel
theorem dX7_share_59 : decode cX7_share 59 = .ok (.goto 6, 3) := by decide +kernel
theorem dX7_share_62 : decode cX7_share 62 = .ok (.sipush 1024, 3) := by decide +kernel
theorem dX7_share_65 : decode cX7_share 65 = .ok (.ireturn, 1) := by decide +kernel
set_option maxRecDepth 20000 in
theorem ggX7_told_X7_knot : GoodIn wsX7_told wsX7_knot := goodIn_r _ [4] (by decide +kernel) (by decide +kernel)
set_option maxRecDepth 20000 in
theorem gX7_told_X7_knot : GoodIn wsX7_told (va_wsS RX7 133 yX7_knot wsX7_knot) := goodIn_app (goodIn_of _ (by decide +kernel)) ggX7_told_X7_knot
set_option maxRecDepth 20000 in
theorem ggX7_told_X7_share : GoodIn wsX7_told wsX7_share := goodIn_r _ [7] (by decide +kernel) (by decide +kernel)
set_option maxRecDepth 20000 in
theorem gX7_told_X7_share : GoodIn wsX7_told (va_wsS RX7 137 yX7_share wsX7_share) := goodIn_app (goodIn_of _ (by decide +kernel)) ggX7_told_X7_share
theorem dX7_told_0 : decode cX7_told 0 = .ok (.iload_n 0, 1) := by decide +kernel
theorem dX7_told_1 : decode cX7_told 1 = .ok (.sipush 3000, 3) := by decide +kernel
theorem dX7_told_4 : decode cX7_told 4 = .ok (.if_icmp .gt 5, 3) := by decide +kernel
theorem dX7_told_7 : decode cX7_told 7 = .ok (.iconst 0, 1) := by decide +kernel
theorem dX7_told_8 : decode cX7_told 8 = .ok (.ireturn, 1) := by decide +kernel
theorem dX7_told_9 : decode cX7_told 9 = .ok (.iload_n 0, 1) := by decide +kernel
theorem dX7_told_10 : decode cX7_told 10 = .ok (.sipush 4150, 3) := by decide +kernel
theorem dX7_told_13 : decode cX7_told 13 = .ok (.if_icmp .lt 7, 3) := by decide +kernel
theorem dX7_told_16 : decode cX7_told 16 = .ok (.sipush 1024, 3) := by decide +kernel
theorem dX7_told_19 : decode cX7_told 19 = .ok (.ireturn, 1) := by decide +kernel
theorem dX7_told_20 : decode cX7_told 20 = .ok (.iconst 0, 1) := by decide +kernel
theorem dX7_told_21 : decode cX7_told 21 = .ok (.istore_n 1, 1) := by decide +kernel
theorem dX7_told_22 : decode cX7_told 22 = .ok (.iload_n 0, 1) := by decide +kernel
theorem dX7_told_23 : decode cX7_told 23 = .ok (.iload_n 1, 1) := by decide +kernel
theorem dX7_told_24 : decode cX7_told 24 = .ok (.iconst 1, 1) := by decide +kernel
theorem dX7_told_25 : decode cX7_told 25 = .ok (.iadd, 1) := by decide +kernel
theorem dX7_told_26 : decode cX7_told 26 = .ok (.invokestatic 133, 3) := by decide +kernel
theorem dX7_told_29 : decode cX7_told 29 = .ok (.if_icmp .le 9, 3) := by decide +kernel
theorem dX7_told_32 : decode cX7_told 32 = .ok (.iinc 1 1, 3) := by decide +kernel
theorem dX7_told_35 : decode cX7_told 35 = .ok (.goto (-13), 3) := by decide +kernel
theorem dX7_told_38 : decode cX7_told 38 = .ok (.iload_n 1, 1) := by decide +kernel
theorem dX7_told_39 : decode cX7_told 39 = .ok (.invokestatic 137, 3) := by decide +kernel
theorem dX7_told_42 : decode cX7_told 42 = .ok (.iload_n 1, 1) := by decide +kernel
theorem dX7_told_43 : decode cX7_told 43 = .ok (.iconst 1, 1) := by decide +kernel
theorem dX7_told_44 : decode cX7_told 44 = .ok (.iadd, 1) := by decide +kernel
theorem dX7_told_45 : decode cX7_told 45 = .ok (.invokestatic 137, 3) := by decide +kernel
theorem dX7_told_48 : decode cX7_told 48 = .ok (.iload_n 1, 1) := by decide +kernel
theorem dX7_told_49 : decode cX7_told 49 = .ok (.invokestatic 137, 3) := by decide +kernel
theorem dX7_told_52 : decode cX7_told 52 = .ok (.isub, 1) := by decide +kernel
theorem dX7_told_53 : decode cX7_told 53 = .ok (.iload_n 0, 1) := by decide +kernel
theorem dX7_told_54 : decode cX7_told 54 = .ok (.iload_n 1, 1) := by decide +kernel
theorem dX7_told_55 : decode cX7_told 55 = .ok (.invokestatic 133, 3) := by decide +kernel
theorem dX7_told_58 : decode cX7_told 58 = .ok (.isub, 1) := by decide +kernel
theorem dX7_told_59 : decode cX7_told 59 = .ok (.imul, 1) := by decide +kernel
theorem dX7_told_60 : decode cX7_told 60 = .ok (.iload_n 1, 1) := by decide +kernel
theorem dX7_told_61 : decode cX7_told 61 = .ok (.iconst 1, 1) := by decide +kernel
theorem dX7_told_62 : decode cX7_told 62 = .ok (.iadd, 1) := by decide +kernel
theorem dX7_told_63 : decode cX7_told 63 = .ok (.invokestatic 133, 3) := by decide +kernel
theorem dX7_told_66 : decode cX7_told 66 = .ok (.iload_n 1, 1) := by decide +kernel
theorem dX7_told_67 : decode cX7_told 67 = .ok (.invokestatic 133, 3) := by decide +kernel
theorem dX7_told_70 : decode cX7_told 70 = .ok (.isub, 1) := by decide +kernel
theorem dX7_told_71 : decode cX7_told 71 = .ok (.idiv, 1) := by decide +kernel
theorem dX7_told_72 : decode cX7_told 72 = .ok (.iadd, 1) := by decide +kernel
theorem dX7_told_73 : decode cX7_told 73 = .ok (.ireturn, 1) := by decide +kernel
theorem dX7_sizeOf_0 : decode cX7_sizeOf 0 = .ok (.lload_n 0, 1) := by decide +kernel
theorem dX7_sizeOf_1 : decode cX7_sizeOf 1 = .ok (.lconst 0, 1) := by decide +kernel
theorem dX7_sizeOf_2 : decode cX7_sizeOf 2 = .ok (.lcmp, 1) := by decide +kernel
theorem dX7_sizeOf_3 : decode cX7_sizeOf 3 = .ok (.ifCond .ge 8, 3) := by decide +kernel
theorem dX7_sizeOf_6 : decode cX7_sizeOf 6 = .ok (.lload_n 0, 1) := by decide +kernel
theorem dX7_sizeOf_7 : decode cX7_sizeOf 7 = .ok (.lneg, 1) := by decide +kernel
theorem dX7_sizeOf_8 : decode cX7_sizeOf 8 = .ok (.goto 4, 3) := by decide +kernel
theorem dX7_sizeOf_11 : decode cX7_sizeOf 11 = .ok (.lload_n 0, 1) := by decide +kernel
theorem dX7_sizeOf_12 : decode cX7_sizeOf 12 = .ok (.lreturn, 1) := by decide +kernel
set_option maxRecDepth 20000 in
theorem ggX7_countCharge_X7_sizeOf : GoodIn wsX7_countCharge wsX7_sizeOf := goodIn_r _ [15] (by decide +kernel) (by decide +kernel)
set_option maxRecDepth 20000 in
theorem gX7_countCharge_X7_sizeOf : GoodIn wsX7_countCharge (va_wsS RX7 147 yX7_sizeOf wsX7_sizeOf) := goodIn_app (goodIn_of _ (by decide +kernel)) ggX7_countCharge_X7_sizeOf
set_option maxRecDepth 20000 in
theorem ggX7_countCharge_X7_areAllValid : GoodIn wsX7_countCharge wsX7_areAllValid := goodIn_r _ [19, 11, 20, 21, 22, 14, 23, 24, 25, 26, 27, 28, 29, 30, 31, 32, 33, 34, 35, 36, 37, 38, 39, 40, 41, 55, 56, 57, 58, 59, 60, 61, 62, 63, 64, 65, 66, 67, 68, 69, 70, 71, 72, 73, 74, 75, 76, 77, 78, 79, 80, 81, 82, 83, 84, 85, 86] (by decide +kernel) (by decide +kernel)
set_option maxRecDepth 20000 in
theorem gX7_countCharge_X7_areAllValid : GoodIn wsX7_countCharge (wsV RX7 158 RX7 yX7_areAllValid wsX7_areAllValid) := goodIn_app (goodIn_of _ (by decide +kernel)) ggX7_countCharge_X7_areAllValid
set_option maxRecDepth 20000 in
theorem ggX7_countCharge_X7_sum : GoodIn wsX7_countCharge wsX7_sum := goodIn_r _ [45, 11, 20, 21, 22, 14, 23, 24, 25, 26, 27, 28, 29, 30, 31, 32, 33, 34, 35, 36, 37, 38, 39, 40, 41, 55, 56, 57, 58, 59, 60, 61, 62, 63, 64, 65, 66, 67, 68, 69, 70, 71, 72, 73, 74, 75, 76, 77, 78, 79, 80, 81, 82, 83, 84, 85, 86] (by decide +kernel) (by decide +kernel)
set_option maxRecDepth 20000 in
theorem gX7_countCharge_X7_sum : GoodIn wsX7_countCharge (wsV RX7 164 RX7 yX7_sum wsX7_sum) := goodIn_app (goodIn_of _ (by decide +kernel)) ggX7_countCharge_X7_sum
set_option maxRecDepth 20000 in
theorem ggX7_countCharge_X7_told : GoodIn wsX7_countCharge wsX7_told := goodIn_r _ [48, 49, 50, 14, 51, 52, 53, 54] (by decide +kernel) (by decide +kernel)
set_option maxRecDepth 20000 in
theorem gX7_countCharge_X7_told : GoodIn wsX7_countCharge (va_wsS RX7 168 yX7_told wsX7_told) := goodIn_app (goodIn_of _ (by decide +kernel)) ggX7_countCharge_X7_told
theorem dX7_countCharge_0 : decode cX7_countCharge 0 = .ok (.ldc2_w 140, 3) := by decide +kernel
theorem dX7_countCharge_3 : decode cX7_countCharge 3 = .ok (.aload_n 0, 1) := by decide +kernel
theorem dX7_countCharge_4 : decode cX7_countCharge 4 = .ok (.getfield 57, 3) := by decide +kernel
theorem dX7_countCharge_7 : decode cX7_countCharge 7 = .ok (.lmul, 1) := by decide +kernel
theorem dX7_countCharge_8 : decode cX7_countCharge 8 = .ok (.lstore_n 1, 1) := by decide +kernel
theorem dX7_countCharge_9 : decode cX7_countCharge 9 = .ok (.aload_n 0, 1) := by decide +kernel
theorem dX7_countCharge_10 : decode cX7_countCharge 10 = .ok (.aload_n 0, 1) := by decide +kernel
theorem dX7_countCharge_11 : decode cX7_countCharge 11 = .ok (.getfield 112, 3) := by decide +kernel
theorem dX7_countCharge_14 : decode cX7_countCharge 14 = .ok (.ldc2_w 142, 3) := by decide +kernel
theorem dX7_countCharge_17 : decode cX7_countCharge 17 = .ok (.aload_n 0, 1) := by decide +kernel
theorem dX7_countCharge_18 : decode cX7_countCharge 18 = .ok (.getfield 92, 3) := by decide +kernel
theorem dX7_countCharge_21 : decode cX7_countCharge 21 = .ok (.lmul, 1) := by decide +kernel
theorem dX7_countCharge_22 : decode cX7_countCharge 22 = .ok (.lsub, 1) := by decide +kernel
theorem dX7_countCharge_23 : decode cX7_countCharge 23 = .ok (.putfield 112, 3) := by decide +kernel
theorem dX7_countCharge_26 : decode cX7_countCharge 26 = .ok (.aload_n 0, 1) := by decide +kernel
theorem dX7_countCharge_27 : decode cX7_countCharge 27 = .ok (.aload_n 0, 1) := by decide +kernel
theorem dX7_countCharge_28 : decode cX7_countCharge 28 = .ok (.getfield 112, 3) := by decide +kernel
theorem dX7_countCharge_31 : decode cX7_countCharge 31 = .ok (.lconst 0, 1) := by decide +kernel
theorem dX7_countCharge_32 : decode cX7_countCharge 32 = .ok (.lcmp, 1) := by decide +kernel
theorem dX7_countCharge_33 : decode cX7_countCharge 33 = .ok (.ifCond .ge 7, 3) := by decide +kernel
theorem dX7_countCharge_36 : decode cX7_countCharge 36 = .ok (.lconst 0, 1) := by decide +kernel
theorem dX7_countCharge_37 : decode cX7_countCharge 37 = .ok (.goto 20, 3) := by decide +kernel
theorem dX7_countCharge_40 : decode cX7_countCharge 40 = .ok (.aload_n 0, 1) := by decide +kernel
theorem dX7_countCharge_41 : decode cX7_countCharge 41 = .ok (.getfield 112, 3) := by decide +kernel
theorem dX7_countCharge_44 : decode cX7_countCharge 44 = .ok (.lload_n 1, 1) := by decide +kernel
theorem dX7_countCharge_45 : decode cX7_countCharge 45 = .ok (.lcmp, 1) := by decide +kernel
theorem dX7_countCharge_46 : decode cX7_countCharge 46 = .ok (.ifCond .le 7, 3) := by decide +kernel
theorem dX7_countCharge_49 : decode cX7_countCharge 49 = .ok (.lload_n 1, 1) := by decide +kernel
theorem dX7_countCharge_50 : decode cX7_countCharge 50 = .ok (.goto 7, 3) := by decide +kernel
theorem dX7_countCharge_53 : decode cX7_countCharge 53 = .ok (.aload_n 0, 1) := by decide +kernel
theorem dX7_countCharge_54 : decode cX7_countCharge 54 = .ok (.getfield 112, 3) := by decide +kernel
theorem dX7_countCharge_57 : decode cX7_countCharge 57 = .ok (.putfield 112, 3) := by decide +kernel
theorem dX7_countCharge_60 : decode cX7_countCharge 60 = .ok (.aload_n 0, 1) := by decide +kernel
theorem dX7_countCharge_61 : decode cX7_countCharge 61 = .ok (.aload_n 0, 1) := by decide +kernel
theorem dX7_countCharge_62 : decode cX7_countCharge 62 = .ok (.getfield 144, 3) := by decide +kernel
theorem dX7_countCharge_65 : decode cX7_countCharge 65 = .ok (.aload_n 0, 1) := by decide +kernel
theorem dX7_countCharge_66 : decode cX7_countCharge 66 = .ok (.getfield 92, 3) := by decide +kernel
theorem dX7_countCharge_69 : decode cX7_countCharge 69 = .ok (.invokestatic 147, 3) := by decide +kernel
theorem dX7_countCharge_72 : decode cX7_countCharge 72 = .ok (.ladd, 1) := by decide +kernel
theorem dX7_countCharge_73 : decode cX7_countCharge 73 = .ok (.putfield 144, 3) := by decide +kernel
theorem dX7_countCharge_76 : decode cX7_countCharge 76 = .ok (.aload_n 0, 1) := by decide +kernel
theorem dX7_countCharge_77 : decode cX7_countCharge 77 = .ok (.getfield 144, 3) := by decide +kernel
theorem dX7_countCharge_80 : decode cX7_countCharge 80 = .ok (.ldc2_w 151, 3) := by decide +kernel
theorem dX7_countCharge_83 : decode cX7_countCharge 83 = .ok (.lcmp, 1) := by decide +kernel
theorem dX7_countCharge_84 : decode cX7_countCharge 84 = .ok (.ifCond .lt 18, 3) := by decide +kernel
theorem dX7_countCharge_87 : decode cX7_countCharge 87 = .ok (.aload_n 0, 1) := by decide +kernel
theorem dX7_countCharge_88 : decode cX7_countCharge 88 = .ok (.aload_n 0, 1) := by decide +kernel
theorem dX7_countCharge_89 : decode cX7_countCharge 89 = .ok (.getfield 144, 3) := by decide +kernel
theorem dX7_countCharge_92 : decode cX7_countCharge 92 = .ok (.ldc2_w 151, 3) := by decide +kernel
theorem dX7_countCharge_95 : decode cX7_countCharge 95 = .ok (.lsub, 1) := by decide +kernel
theorem dX7_countCharge_96 : decode cX7_countCharge 96 = .ok (.putfield 144, 3) := by decide +kernel
theorem dX7_countCharge_99 : decode cX7_countCharge 99 = .ok (.goto (-23), 3) := by decide +kernel
theorem dX7_countCharge_102 : decode cX7_countCharge 102 = .ok (.aload_n 0, 1) := by decide +kernel
theorem dX7_countCharge_103 : decode cX7_countCharge 103 = .ok (.aload_n 0, 1) := by decide +kernel
theorem dX7_countCharge_104 : decode cX7_countCharge 104 = .ok (.getfield 92, 3) := by decide +kernel
theorem dX7_countCharge_107 : decode cX7_countCharge 107 = .ok (.invokestatic 147, 3) := by decide +kernel
theorem dX7_countCharge_110 : decode cX7_countCharge 110 = .ok (.ldc2_w 153, 3) := by decide +kernel
theorem dX7_countCharge_113 : decode cX7_countCharge 113 = .ok (.lcmp, 1) := by decide +kernel
theorem dX7_countCharge_114 : decode cX7_countCharge 114 = .ok (.ifCond .ge 12, 3) := by decide +kernel
theorem dX7_countCharge_117 : decode cX7_countCharge 117 = .ok (.aload_n 0, 1) := by decide +kernel
theorem dX7_countCharge_118 : decode cX7_countCharge 118 = .ok (.getfield 155, 3) := by decide +kernel
theorem dX7_countCharge_121 : decode cX7_countCharge 121 = .ok (.iconst 1, 1) := by decide +kernel
theorem dX7_countCharge_122 : decode cX7_countCharge 122 = .ok (.iadd, 1) := by decide +kernel
theorem dX7_countCharge_123 : decode cX7_countCharge 123 = .ok (.goto 4, 3) := by decide +kernel
theorem dX7_countCharge_126 : decode cX7_countCharge 126 = .ok (.iconst 0, 1) := by decide +kernel
theorem dX7_countCharge_127 : decode cX7_countCharge 127 = .ok (.putfield 155, 3) := by decide +kernel
theorem dX7_countCharge_130 : decode cX7_countCharge 130 = .ok (.aload_n 0, 1) := by decide +kernel
theorem dX7_countCharge_131 : decode cX7_countCharge 131 = .ok (.getfield 155, 3) := by decide +kernel
theorem dX7_countCharge_134 : decode cX7_countCharge 134 = .ok (.bipush 60, 2) := by decide +kernel
theorem dX7_countCharge_136 : decode cX7_countCharge 136 = .ok (.if_icmp .lt 39, 3) := by decide +kernel
theorem dX7_countCharge_139 : decode cX7_countCharge 139 = .ok (.aload_n 0, 1) := by decide +kernel
theorem dX7_countCharge_140 : decode cX7_countCharge 140 = .ok (.invokevirtual 158, 3) := by decide +kernel
theorem dX7_countCharge_143 : decode cX7_countCharge 143 = .ok (.ifCond .eq 32, 3) := by decide +kernel
theorem dX7_countCharge_146 : decode cX7_countCharge 146 = .ok (.aload_n 0, 1) := by decide +kernel
theorem dX7_countCharge_147 : decode cX7_countCharge 147 = .ok (.ldc2_w 162, 3) := by decide +kernel
theorem dX7_countCharge_150 : decode cX7_countCharge 150 = .ok (.aload_n 0, 1) := by decide +kernel
theorem dX7_countCharge_151 : decode cX7_countCharge 151 = .ok (.getfield 57, 3) := by decide +kernel
theorem dX7_countCharge_154 : decode cX7_countCharge 154 = .ok (.lmul, 1) := by decide +kernel
theorem dX7_countCharge_155 : decode cX7_countCharge 155 = .ok (.aload_n 0, 1) := by decide +kernel
theorem dX7_countCharge_156 : decode cX7_countCharge 156 = .ok (.invokevirtual 164, 3) := by decide +kernel
theorem dX7_countCharge_159 : decode cX7_countCharge 159 = .ok (.bipush 6, 2) := by decide +kernel
theorem dX7_countCharge_161 : decode cX7_countCharge 161 = .ok (.aload_n 0, 1) := by decide +kernel
theorem dX7_countCharge_162 : decode cX7_countCharge 162 = .ok (.getfield 49, 3) := by decide +kernel
theorem dX7_countCharge_165 : decode cX7_countCharge 165 = .ok (.imul, 1) := by decide +kernel
theorem dX7_countCharge_166 : decode cX7_countCharge 166 = .ok (.idiv, 1) := by decide +kernel
theorem dX7_countCharge_167 : decode cX7_countCharge 167 = .ok (.invokestatic 168, 3) := by decide +kernel
theorem dX7_countCharge_170 : decode cX7_countCharge 170 = .ok (.i2l, 1) := by decide +kernel
theorem dX7_countCharge_171 : decode cX7_countCharge 171 = .ok (.lmul, 1) := by decide +kernel
theorem dX7_countCharge_172 : decode cX7_countCharge 172 = .ok (.putfield 112, 3) := by decide +kernel
theorem dX7_countCharge_175 : decode cX7_countCharge 175 = .ok (.return_, 1) := by decide +kernel
theorem dX7_floor_0 : decode cX7_floor 0 = .ok (.lload_n 0, 1) := by decide +kernel
theorem dX7_floor_1 : decode cX7_floor 1 = .ok (.lload_n 2, 1) := by decide +kernel
theorem dX7_floor_2 : decode cX7_floor 2 = .ok (.ldiv, 1) := by decide +kernel
theorem dX7_floor_3 : decode cX7_floor 3 = .ok (.lstore 4, 2) := by decide +kernel
theorem dX7_floor_5 : decode cX7_floor 5 = .ok (.lload_n 0, 1) := by decide +kernel
theorem dX7_floor_6 : decode cX7_floor 6 = .ok (.lload_n 2, 1) := by decide +kernel
theorem dX7_floor_7 : decode cX7_floor 7 = .ok (.lrem, 1) := by decide +kernel
theorem dX7_floor_8 : decode cX7_floor 8 = .ok (.lconst 0, 1) := by decide +kernel
theorem dX7_floor_9 : decode cX7_floor 9 = .ok (.lcmp, 1) := by decide +kernel
theorem dX7_floor_10 : decode cX7_floor 10 = .ok (.ifCond .eq 16, 3) := by decide +kernel
theorem dX7_floor_13 : decode cX7_floor 13 = .ok (.lload_n 0, 1) := by decide +kernel
theorem dX7_floor_14 : decode cX7_floor 14 = .ok (.lconst 0, 1) := by decide +kernel
theorem dX7_floor_15 : decode cX7_floor 15 = .ok (.lcmp, 1) := by decide +kernel
theorem dX7_floor_16 : decode cX7_floor 16 = .ok (.ifCond .ge 10, 3) := by decide +kernel
theorem dX7_floor_19 : decode cX7_floor 19 = .ok (.lload 4, 2) := by decide +kernel
theorem dX7_floor_21 : decode cX7_floor 21 = .ok (.lconst 1, 1) := by decide +kernel
theorem dX7_floor_22 : decode cX7_floor 22 = .ok (.lsub, 1) := by decide +kernel
theorem dX7_floor_23 : decode cX7_floor 23 = .ok (.goto 5, 3) := by decide +kernel
theorem dX7_floor_26 : decode cX7_floor 26 = .ok (.lload 4, 2) := by decide +kernel
theorem dX7_floor_28 : decode cX7_floor 28 = .ok (.lreturn, 1) := by decide +kernel
theorem dX7_hottest_0 : decode cX7_hottest 0 = .ok (.aload_n 0, 1) := by decide +kernel
theorem dX7_hottest_1 : decode cX7_hottest 1 = .ok (.getfield 16, 3) := by decide +kernel
theorem dX7_hottest_4 : decode cX7_hottest 4 = .ok (.iconst 0, 1) := by decide +kernel
theorem dX7_hottest_5 : decode cX7_hottest 5 = .ok (.laload, 1) := by decide +kernel
theorem dX7_hottest_6 : decode cX7_hottest 6 = .ok (.lstore_n 1, 1) := by decide +kernel
theorem dX7_hottest_7 : decode cX7_hottest 7 = .ok (.iconst 1, 1) := by decide +kernel
theorem dX7_hottest_8 : decode cX7_hottest 8 = .ok (.istore_n 3, 1) := by decide +kernel
theorem dX7_hottest_9 : decode cX7_hottest 9 = .ok (.iload_n 3, 1) := by decide +kernel
theorem dX7_hottest_10 : decode cX7_hottest 10 = .ok (.aload_n 0, 1) := by decide +kernel
theorem dX7_hottest_11 : decode cX7_hottest 11 = .ok (.getfield 49, 3) := by decide +kernel
theorem dX7_hottest_14 : decode cX7_hottest 14 = .ok (.if_icmp .ge 31, 3) := by decide +kernel
theorem dX7_hottest_17 : decode cX7_hottest 17 = .ok (.aload_n 0, 1) := by decide +kernel
theorem dX7_hottest_18 : decode cX7_hottest 18 = .ok (.getfield 16, 3) := by decide +kernel
theorem dX7_hottest_21 : decode cX7_hottest 21 = .ok (.iload_n 3, 1) := by decide +kernel
theorem dX7_hottest_22 : decode cX7_hottest 22 = .ok (.laload, 1) := by decide +kernel
theorem dX7_hottest_23 : decode cX7_hottest 23 = .ok (.lload_n 1, 1) := by decide +kernel
theorem dX7_hottest_24 : decode cX7_hottest 24 = .ok (.lcmp, 1) := by decide +kernel
theorem dX7_hottest_25 : decode cX7_hottest 25 = .ok (.ifCond .le 12, 3) := by decide +kernel
theorem dX7_hottest_28 : decode cX7_hottest 28 = .ok (.aload_n 0, 1) := by decide +kernel
theorem dX7_hottest_29 : decode cX7_hottest 29 = .ok (.getfield 16, 3) := by decide +kernel
theorem dX7_hottest_32 : decode cX7_hottest 32 = .ok (.iload_n 3, 1) := by decide +kernel
theorem dX7_hottest_33 : decode cX7_hottest 33 = .ok (.laload, 1) := by decide +kernel
theorem dX7_hottest_34 : decode cX7_hottest 34 = .ok (.goto 4, 3) := by decide +kernel
theorem dX7_hottest_37 : decode cX7_hottest 37 = .ok (.lload_n 1, 1) := by decide +kernel
theorem dX7_hottest_38 : decode cX7_hottest 38 = .ok (.lstore_n 1, 1) := by decide +kernel
theorem dX7_hottest_39 : decode cX7_hottest 39 = .ok (.iinc 3 1, 3) := by decide +kernel
theorem dX7_hottest_42 : decode cX7_hottest 42 = .ok (.goto (-33), 3) := by decide +kernel
theorem dX7_hottest_45 : decode cX7_hottest 45 = .ok (.lload_n 1, 1) := by decide +kernel
theorem dX7_hottest_46 : decode cX7_hottest 46 = .ok (.lreturn, 1) := by decide +kernel
theorem dX7_coldest_0 : decode cX7_coldest 0 = .ok (.aload_n 0, 1) := by decide +kernel
theorem dX7_coldest_1 : decode cX7_coldest 1 = .ok (.getfield 16, 3) := by decide +kernel
theorem dX7_coldest_4 : decode cX7_coldest 4 = .ok (.iconst 0, 1) := by decide +kernel
theorem dX7_coldest_5 : decode cX7_coldest 5 = .ok (.laload, 1) := by decide +kernel
theorem dX7_coldest_6 : decode cX7_coldest 6 = .ok (.lstore_n 1, 1) := by decide +kernel
theorem dX7_coldest_7 : decode cX7_coldest 7 = .ok (.iconst 1, 1) := by decide +kernel
theorem dX7_coldest_8 : decode cX7_coldest 8 = .ok (.istore_n 3, 1) := by decide +kernel
theorem dX7_coldest_9 : decode cX7_coldest 9 = .ok (.iload_n 3, 1) := by decide +kernel
theorem dX7_coldest_10 : decode cX7_coldest 10 = .ok (.aload_n 0, 1) := by decide +kernel
theorem dX7_coldest_11 : decode cX7_coldest 11 = .ok (.getfield 49, 3) := by decide +kernel
theorem dX7_coldest_14 : decode cX7_coldest 14 = .ok (.if_icmp .ge 31, 3) := by decide +kernel
theorem dX7_coldest_17 : decode cX7_coldest 17 = .ok (.aload_n 0, 1) := by decide +kernel
theorem dX7_coldest_18 : decode cX7_coldest 18 = .ok (.getfield 16, 3) := by decide +kernel
theorem dX7_coldest_21 : decode cX7_coldest 21 = .ok (.iload_n 3, 1) := by decide +kernel
theorem dX7_coldest_22 : decode cX7_coldest 22 = .ok (.laload, 1) := by decide +kernel
theorem dX7_coldest_23 : decode cX7_coldest 23 = .ok (.lload_n 1, 1) := by decide +kernel
theorem dX7_coldest_24 : decode cX7_coldest 24 = .ok (.lcmp, 1) := by decide +kernel
theorem dX7_coldest_25 : decode cX7_coldest 25 = .ok (.ifCond .ge 12, 3) := by decide +kernel
theorem dX7_coldest_28 : decode cX7_coldest 28 = .ok (.aload_n 0, 1) := by decide +kernel
theorem dX7_coldest_29 : decode cX7_coldest 29 = .ok (.getfield 16, 3) := by decide +kernel
theorem dX7_coldest_32 : decode cX7_coldest 32 = .ok (.iload_n 3, 1) := by decide +kernel
theorem dX7_coldest_33 : decode cX7_coldest 33 = .ok (.laload, 1) := by decide +kernel
theorem dX7_coldest_34 : decode cX7_coldest 34 = .ok (.goto 4, 3) := by decide +kernel
theorem dX7_coldest_37 : decode cX7_coldest 37 = .ok (.lload_n 1, 1) := by decide +kernel
theorem dX7_coldest_38 : decode cX7_coldest 38 = .ok (.lstore_n 1, 1) := by decide +kernel
theorem dX7_coldest_39 : decode cX7_coldest 39 = .ok (.iinc 3 1, 3) := by decide +kernel
theorem dX7_coldest_42 : decode cX7_coldest 42 = .ok (.goto (-33), 3) := by decide +kernel
theorem dX7_coldest_45 : decode cX7_coldest 45 = .ok (.lload_n 1, 1) := by decide +kernel
theorem dX7_coldest_46 : decode cX7_coldest 46 = .ok (.lreturn, 1) := by decide +kernel
set_option maxRecDepth 20000 in
theorem ggX7_full_X7_floor : GoodIn wsX7_full wsX7_floor := goodIn_r _ [9] (by decide +kernel) (by decide +kernel)
set_option maxRecDepth 20000 in
theorem gX7_full_X7_floor : GoodIn wsX7_full (va_wsS RX7 173 yX7_floor wsX7_floor) := goodIn_app (goodIn_of _ (by decide +kernel)) ggX7_full_X7_floor
theorem dX7_full_0 : decode cX7_full 0 = .ok (.ldc2_w 162, 3) := by decide +kernel
theorem dX7_full_3 : decode cX7_full 3 = .ok (.lload_n 1, 1) := by decide +kernel
theorem dX7_full_4 : decode cX7_full 4 = .ok (.lmul, 1) := by decide +kernel
theorem dX7_full_5 : decode cX7_full 5 = .ok (.ldc2_w 140, 3) := by decide +kernel
theorem dX7_full_8 : decode cX7_full 8 = .ok (.aload_n 0, 1) := by decide +kernel
theorem dX7_full_9 : decode cX7_full 9 = .ok (.getfield 57, 3) := by decide +kernel
theorem dX7_full_12 : decode cX7_full 12 = .ok (.lmul, 1) := by decide +kernel
theorem dX7_full_13 : decode cX7_full 13 = .ok (.lcmp, 1) := by decide +kernel
theorem dX7_full_14 : decode cX7_full 14 = .ok (.ifCond .lt 9, 3) := by decide +kernel
theorem dX7_full_17 : decode cX7_full 17 = .ok (.ldc2_w 120, 3) := by decide +kernel
theorem dX7_full_20 : decode cX7_full 20 = .ok (.goto 19, 3) := by decide +kernel
theorem dX7_full_23 : decode cX7_full 23 = .ok (.ldc2_w 171, 3) := by decide +kernel
theorem dX7_full_26 : decode cX7_full 26 = .ok (.lload_n 1, 1) := by decide +kernel
theorem dX7_full_27 : decode cX7_full 27 = .ok (.lmul, 1) := by decide +kernel
theorem dX7_full_28 : decode cX7_full 28 = .ok (.ldc2_w 140, 3) := by decide +kernel
theorem dX7_full_31 : decode cX7_full 31 = .ok (.aload_n 0, 1) := by decide +kernel
theorem dX7_full_32 : decode cX7_full 32 = .ok (.getfield 57, 3) := by decide +kernel
theorem dX7_full_35 : decode cX7_full 35 = .ok (.lmul, 1) := by decide +kernel
theorem dX7_full_36 : decode cX7_full 36 = .ok (.invokestatic 173, 3) := by decide +kernel
theorem dX7_full_39 : decode cX7_full 39 = .ok (.lreturn, 1) := by decide +kernel
theorem dX7_least_0 : decode cX7_least 0 = .ok (.lload_n 0, 1) := by decide +kernel
theorem dX7_least_1 : decode cX7_least 1 = .ok (.lload_n 2, 1) := by decide +kernel
theorem dX7_least_2 : decode cX7_least 2 = .ok (.lcmp, 1) := by decide +kernel
theorem dX7_least_3 : decode cX7_least 3 = .ok (.ifCond .ge 7, 3) := by decide +kernel
theorem dX7_least_6 : decode cX7_least 6 = .ok (.lload_n 0, 1) := by decide +kernel
theorem dX7_least_7 : decode cX7_least 7 = .ok (.goto 4, 3) := by decide +kernel
theorem dX7_least_10 : decode cX7_least 10 = .ok (.lload_n 2, 1) := by decide +kernel
theorem dX7_least_11 : decode cX7_least 11 = .ok (.lstore 6, 2) := by decide +kernel
theorem dX7_least_13 : decode cX7_least 13 = .ok (.lload 6, 2) := by decide +kernel
theorem dX7_least_15 : decode cX7_least 15 = .ok (.lload 4, 2) := by decide +kernel
theorem dX7_least_17 : decode cX7_least 17 = .ok (.lcmp, 1) := by decide +kernel
theorem dX7_least_18 : decode cX7_least 18 = .ok (.ifCond .ge 8, 3) := by decide +kernel
theorem dX7_least_21 : decode cX7_least 21 = .ok (.lload 6, 2) := by decide +kernel
theorem dX7_least_23 : decode cX7_least 23 = .ok (.goto 5, 3) := by decide +kernel
theorem dX7_least_26 : decode cX7_least 26 = .ok (.lload 4, 2) := by decide +kernel
theorem dX7_least_28 : decode cX7_least 28 = .ok (.lreturn, 1) := by decide +kernel
set_option maxRecDepth 20000 in
theorem ggX7_allow_X7_hottest : GoodIn wsX7_allow wsX7_hottest := goodIn_r _ [20, 21, 22, 39, 40, 41, 42, 43, 44, 45, 46, 47, 48, 49, 50, 51, 52, 53, 54, 55, 56, 57, 58, 59, 60, 61, 62, 63, 64, 65, 66, 67, 68, 69, 70] (by decide +kernel) (by decide +kernel)
set_option maxRecDepth 20000 in
theorem gX7_allow_X7_hottest : GoodIn wsX7_allow (wsV RX7 177 RX7 yX7_hottest wsX7_hottest) := goodIn_app (goodIn_of _ (by decide +kernel)) ggX7_allow_X7_hottest
set_option maxRecDepth 20000 in
theorem ggX7_allow_X7_coldest : GoodIn wsX7_allow wsX7_coldest := goodIn_r _ [26, 21, 22, 39, 40, 41, 42, 43, 44, 45, 46, 47, 48, 49, 50, 51, 52, 53, 54, 55, 56, 57, 58, 59, 60, 61, 62, 63, 64, 65, 66, 67, 68, 69, 70] (by decide +kernel) (by decide +kernel)
set_option maxRecDepth 20000 in
theorem gX7_allow_X7_coldest : GoodIn wsX7_allow (wsV RX7 181 RX7 yX7_coldest wsX7_coldest) := goodIn_app (goodIn_of _ (by decide +kernel)) ggX7_allow_X7_coldest
set_option maxRecDepth 20000 in
theorem ggX7_allow_X7_floor : GoodIn wsX7_allow wsX7_floor := goodIn_r _ [29] (by decide +kernel) (by decide +kernel)
set_option maxRecDepth 20000 in
theorem gX7_allow_X7_floor : GoodIn wsX7_allow (va_wsS RX7 173 yX7_floor wsX7_floor) := goodIn_app (goodIn_of _ (by decide +kernel)) ggX7_allow_X7_floor
set_option maxRecDepth 20000 in
theorem ggX7_allow_X7_full : GoodIn wsX7_allow wsX7_full := goodIn_r _ [33, 34, 13, 14, 2, 35, 27, 28, 19, 29, 39, 40, 41, 42, 43, 44, 45, 46, 47, 48, 49, 50, 51, 52, 53, 54, 55, 56, 57, 58, 59, 60, 61, 62, 63, 64, 65, 66, 67, 68, 69, 70] (by decide +kernel) (by decide +kernel)
set_option maxRecDepth 20000 in
theorem gX7_allow_X7_full : GoodIn wsX7_allow (wsV RX7 198 RX7 yX7_full wsX7_full) := goodIn_app (goodIn_of _ (by decide +kernel)) ggX7_allow_X7_full
set_option maxRecDepth 20000 in
theorem ggX7_allow_X7_least : GoodIn wsX7_allow wsX7_least := goodIn_r _ [38] (by decide +kernel) (by decide +kernel)
set_option maxRecDepth 20000 in
theorem gX7_allow_X7_least : GoodIn wsX7_allow (va_wsS RX7 201 yX7_least wsX7_least) := goodIn_app (goodIn_of _ (by decide +kernel)) ggX7_allow_X7_least
theorem dX7_allow_0 : decode cX7_allow 0 = .ok (.aload_n 0, 1) := by decide +kernel
theorem dX7_allow_1 : decode cX7_allow 1 = .ok (.invokevirtual 177, 3) := by decide +kernel
theorem dX7_allow_4 : decode cX7_allow 4 = .ok (.lstore_n 1, 1) := by decide +kernel
theorem dX7_allow_5 : decode cX7_allow 5 = .ok (.aload_n 0, 1) := by decide +kernel
theorem dX7_allow_6 : decode cX7_allow 6 = .ok (.invokevirtual 181, 3) := by decide +kernel
theorem dX7_allow_9 : decode cX7_allow 9 = .ok (.lstore_n 3, 1) := by decide +kernel
theorem dX7_allow_10 : decode cX7_allow 10 = .ok (.lload_n 1, 1) := by decide +kernel
theorem dX7_allow_11 : decode cX7_allow 11 = .ok (.ldc2_w 184, 3) := by decide +kernel
theorem dX7_allow_14 : decode cX7_allow 14 = .ok (.lcmp, 1) := by decide +kernel
theorem dX7_allow_15 : decode cX7_allow 15 = .ok (.ifCond .gt 9, 3) := by decide +kernel
theorem dX7_allow_18 : decode cX7_allow 18 = .ok (.ldc2_w 120, 3) := by decide +kernel
theorem dX7_allow_21 : decode cX7_allow 21 = .ok (.goto 26, 3) := by decide +kernel
theorem dX7_allow_24 : decode cX7_allow 24 = .ok (.lload_n 1, 1) := by decide +kernel
theorem dX7_allow_25 : decode cX7_allow 25 = .ok (.ldc2_w 186, 3) := by decide +kernel
theorem dX7_allow_28 : decode cX7_allow 28 = .ok (.lcmp, 1) := by decide +kernel
theorem dX7_allow_29 : decode cX7_allow 29 = .ok (.ifCond .lt 7, 3) := by decide +kernel
theorem dX7_allow_32 : decode cX7_allow 32 = .ok (.lconst 0, 1) := by decide +kernel
theorem dX7_allow_33 : decode cX7_allow 33 = .ok (.goto 14, 3) := by decide +kernel
theorem dX7_allow_36 : decode cX7_allow 36 = .ok (.ldc2_w 186, 3) := by decide +kernel
theorem dX7_allow_39 : decode cX7_allow 39 = .ok (.lload_n 1, 1) := by decide +kernel
theorem dX7_allow_40 : decode cX7_allow 40 = .ok (.lsub, 1) := by decide +kernel
theorem dX7_allow_41 : decode cX7_allow 41 = .ok (.ldc2_w 188, 3) := by decide +kernel
theorem dX7_allow_44 : decode cX7_allow 44 = .ok (.invokestatic 173, 3) := by decide +kernel
theorem dX7_allow_47 : decode cX7_allow 47 = .ok (.lstore 5, 2) := by decide +kernel
theorem dX7_allow_49 : decode cX7_allow 49 = .ok (.lload_n 3, 1) := by decide +kernel
theorem dX7_allow_50 : decode cX7_allow 50 = .ok (.ldc2_w 190, 3) := by decide +kernel
theorem dX7_allow_53 : decode cX7_allow 53 = .ok (.lcmp, 1) := by decide +kernel
theorem dX7_allow_54 : decode cX7_allow 54 = .ok (.ifCond .lt 9, 3) := by decide +kernel
theorem dX7_allow_57 : decode cX7_allow 57 = .ok (.ldc2_w 120, 3) := by decide +kernel
theorem dX7_allow_60 : decode cX7_allow 60 = .ok (.goto 26, 3) := by decide +kernel
theorem dX7_allow_63 : decode cX7_allow 63 = .ok (.lload_n 3, 1) := by decide +kernel
theorem dX7_allow_64 : decode cX7_allow 64 = .ok (.ldc2_w 192, 3) := by decide +kernel
theorem dX7_allow_67 : decode cX7_allow 67 = .ok (.lcmp, 1) := by decide +kernel
theorem dX7_allow_68 : decode cX7_allow 68 = .ok (.ifCond .gt 7, 3) := by decide +kernel
theorem dX7_allow_71 : decode cX7_allow 71 = .ok (.lconst 0, 1) := by decide +kernel
theorem dX7_allow_72 : decode cX7_allow 72 = .ok (.goto 14, 3) := by decide +kernel
theorem dX7_allow_75 : decode cX7_allow 75 = .ok (.lload_n 3, 1) := by decide +kernel
theorem dX7_allow_76 : decode cX7_allow 76 = .ok (.ldc2_w 194, 3) := by decide +kernel
theorem dX7_allow_79 : decode cX7_allow 79 = .ok (.ladd, 1) := by decide +kernel
theorem dX7_allow_80 : decode cX7_allow 80 = .ok (.ldc2_w 153, 3) := by decide +kernel
theorem dX7_allow_83 : decode cX7_allow 83 = .ok (.invokestatic 173, 3) := by decide +kernel
theorem dX7_allow_86 : decode cX7_allow 86 = .ok (.lstore 7, 2) := by decide +kernel
theorem dX7_allow_88 : decode cX7_allow 88 = .ok (.aload_n 0, 1) := by decide +kernel
theorem dX7_allow_89 : decode cX7_allow 89 = .ok (.ldc2_w 196, 3) := by decide +kernel
theorem dX7_allow_92 : decode cX7_allow 92 = .ok (.lload 5, 2) := by decide +kernel
theorem dX7_allow_94 : decode cX7_allow 94 = .ok (.lload 7, 2) := by decide +kernel
theorem dX7_allow_96 : decode cX7_allow 96 = .ok (.aload_n 0, 1) := by decide +kernel
theorem dX7_allow_97 : decode cX7_allow 97 = .ok (.aload_n 0, 1) := by decide +kernel
theorem dX7_allow_98 : decode cX7_allow 98 = .ok (.getfield 112, 3) := by decide +kernel
theorem dX7_allow_101 : decode cX7_allow 101 = .ok (.invokevirtual 198, 3) := by decide +kernel
theorem dX7_allow_104 : decode cX7_allow 104 = .ok (.invokestatic 201, 3) := by decide +kernel
theorem dX7_allow_107 : decode cX7_allow 107 = .ok (.lmul, 1) := by decide +kernel
theorem dX7_allow_108 : decode cX7_allow 108 = .ok (.putfield 205, 3) := by decide +kernel
theorem dX7_allow_111 : decode cX7_allow 111 = .ok (.aload_n 0, 1) := by decide +kernel
theorem dX7_allow_112 : decode cX7_allow 112 = .ok (.ldc2_w 208, 3) := by decide +kernel
theorem dX7_allow_115 : decode cX7_allow 115 = .ok (.lload 5, 2) := by decide +kernel
theorem dX7_allow_117 : decode cX7_allow 117 = .ok (.lload 7, 2) := by decide +kernel
theorem dX7_allow_119 : decode cX7_allow 119 = .ok (.aload_n 0, 1) := by decide +kernel
theorem dX7_allow_120 : decode cX7_allow 120 = .ok (.ldc2_w 140, 3) := by decide +kernel
theorem dX7_allow_123 : decode cX7_allow 123 = .ok (.aload_n 0, 1) := by decide +kernel
theorem dX7_allow_124 : decode cX7_allow 124 = .ok (.getfield 57, 3) := by decide +kernel
theorem dX7_allow_127 : decode cX7_allow 127 = .ok (.lmul, 1) := by decide +kernel
theorem dX7_allow_128 : decode cX7_allow 128 = .ok (.aload_n 0, 1) := by decide +kernel
theorem dX7_allow_129 : decode cX7_allow 129 = .ok (.getfield 112, 3) := by decide +kernel
theorem dX7_allow_132 : decode cX7_allow 132 = .ok (.lsub, 1) := by decide +kernel
theorem dX7_allow_133 : decode cX7_allow 133 = .ok (.invokevirtual 198, 3) := by decide +kernel
theorem dX7_allow_136 : decode cX7_allow 136 = .ok (.invokestatic 201, 3) := by decide +kernel
theorem dX7_allow_139 : decode cX7_allow 139 = .ok (.lmul, 1) := by decide +kernel
theorem dX7_allow_140 : decode cX7_allow 140 = .ok (.putfield 210, 3) := by decide +kernel
theorem dX7_allow_143 : decode cX7_allow 143 = .ok (.return_, 1) := by decide +kernel
set_option maxRecDepth 20000 in
theorem ggX7_isSo_X7_hottest : GoodIn wsX7_isSo wsX7_hottest := goodIn_r _ [14, 15, 9, 42, 43, 44, 45, 46, 47, 48, 49, 50, 51, 52, 53, 54, 55, 56, 57, 58, 59, 60, 61, 62, 63, 64, 65, 66, 67, 68, 69, 70, 71, 72, 73] (by decide +kernel) (by decide +kernel)
set_option maxRecDepth 20000 in
theorem gX7_isSo_X7_hottest : GoodIn wsX7_isSo (wsV RX7 177 RX7 yX7_hottest wsX7_hottest) := goodIn_app (goodIn_of _ (by decide +kernel)) ggX7_isSo_X7_hottest
set_option maxRecDepth 20000 in
theorem ggX7_isSo_X7_coldest : GoodIn wsX7_isSo wsX7_coldest := goodIn_r _ [19, 15, 9, 42, 43, 44, 45, 46, 47, 48, 49, 50, 51, 52, 53, 54, 55, 56, 57, 58, 59, 60, 61, 62, 63, 64, 65, 66, 67, 68, 69, 70, 71, 72, 73] (by decide +kernel) (by decide +kernel)
set_option maxRecDepth 20000 in
theorem gX7_isSo_X7_coldest : GoodIn wsX7_isSo (wsV RX7 181 RX7 yX7_coldest wsX7_coldest) := goodIn_app (goodIn_of _ (by decide +kernel)) ggX7_isSo_X7_coldest
set_option maxRecDepth 20000 in
theorem ggX7_isSo_X7_isStale : GoodIn wsX7_isSo wsX7_isStale := goodIn_r _ [23, 24, 25, 42, 43, 44, 45, 46, 47, 48, 49, 50, 51, 52, 53, 54, 55, 56, 57, 58, 59, 60, 61, 62, 63, 64, 65, 66, 67, 68, 69, 70, 71, 72, 73] (by decide +kernel) (by decide +kernel)
set_option maxRecDepth 20000 in
theorem gX7_isSo_X7_isStale : GoodIn wsX7_isSo (wsV RX7 122 RX7 yX7_isStale wsX7_isStale) := goodIn_app (goodIn_of _ (by decide +kernel)) ggX7_isSo_X7_isStale
set_option maxRecDepth 20000 in
theorem ggX7_isSo_X7_isValid : GoodIn wsX7_isSo wsX7_isValid := goodIn_r _ [29, 30, 20, 21, 22, 13, 23, 24, 25, 31, 32, 33, 34, 35, 36, 37, 38, 39, 40, 41, 42, 43, 44, 45, 46, 47, 48, 49, 50, 51, 52, 53, 54, 55, 56, 57, 58, 59, 60, 61, 62, 63, 64, 65, 66, 67, 68, 69, 70, 71, 72, 73] (by decide +kernel) (by decide +kernel)
set_option maxRecDepth 20000 in
theorem gX7_isSo_X7_isValid : GoodIn wsX7_isSo (wsV RX7 130 RX7 yX7_isValid wsX7_isValid) := goodIn_app (goodIn_of _ (by decide +kernel)) ggX7_isSo_X7_isValid
set_option maxRecDepth 20000 in
theorem ggX7_isSo_X7_numberOf : GoodIn wsX7_isSo wsX7_numberOf := goodIn_r _ [34, 24, 35, 42, 43, 44, 45, 46, 47, 48, 49, 50, 51, 52, 53, 54, 55, 56, 57, 58, 59, 60, 61, 62, 63, 64, 65, 66, 67, 68, 69, 70, 71, 72, 73] (by decide +kernel) (by decide +kernel)
set_option maxRecDepth 20000 in
theorem gX7_isSo_X7_numberOf : GoodIn wsX7_isSo (wsV RX7 117 RX7 yX7_numberOf wsX7_numberOf) := goodIn_app (goodIn_of _ (by decide +kernel)) ggX7_isSo_X7_numberOf
theorem dX7_isSo_0 : decode cX7_isSo 0 = .ok (.iload_n 1, 1) := by decide +kernel
theorem dX7_isSo_1 : decode cX7_isSo 1 = .ok (.iconst 4, 1) := by decide +kernel
theorem dX7_isSo_2 : decode cX7_isSo 2 = .ok (.if_icmp .ne 20, 3) := by decide +kernel
theorem dX7_isSo_5 : decode cX7_isSo 5 = .ok (.aload_n 0, 1) := by decide +kernel
theorem dX7_isSo_6 : decode cX7_isSo 6 = .ok (.invokevirtual 177, 3) := by decide +kernel
theorem dX7_isSo_9 : decode cX7_isSo 9 = .ok (.ldc2_w 213, 3) := by decide +kernel
theorem dX7_isSo_12 : decode cX7_isSo 12 = .ok (.lcmp, 1) := by decide +kernel
theorem dX7_isSo_13 : decode cX7_isSo 13 = .ok (.ifCond .le 7, 3) := by decide +kernel
theorem dX7_isSo_16 : decode cX7_isSo 16 = .ok (.iconst 1, 1) := by decide +kernel
theorem dX7_isSo_17 : decode cX7_isSo 17 = .ok (.goto 4, 3) := by decide +kernel
theorem dX7_isSo_20 : decode cX7_isSo 20 = .ok (.iconst 0, 1) := by decide +kernel
theorem dX7_isSo_21 : decode cX7_isSo 21 = .ok (.ireturn, 1) := by decide +kernel
theorem dX7_isSo_22 : decode cX7_isSo 22 = .ok (.iload_n 1, 1) := by decide +kernel
theorem dX7_isSo_23 : decode cX7_isSo 23 = .ok (.iconst 5, 1) := by decide +kernel
theorem dX7_isSo_24 : decode cX7_isSo 24 = .ok (.if_icmp .ne 20, 3) := by decide +kernel
theorem dX7_isSo_27 : decode cX7_isSo 27 = .ok (.aload_n 0, 1) := by decide +kernel
theorem dX7_isSo_28 : decode cX7_isSo 28 = .ok (.invokevirtual 181, 3) := by decide +kernel
theorem dX7_isSo_31 : decode cX7_isSo 31 = .ok (.ldc2_w 215, 3) := by decide +kernel
theorem dX7_isSo_34 : decode cX7_isSo 34 = .ok (.lcmp, 1) := by decide +kernel
theorem dX7_isSo_35 : decode cX7_isSo 35 = .ok (.ifCond .ge 7, 3) := by decide +kernel
theorem dX7_isSo_38 : decode cX7_isSo 38 = .ok (.iconst 1, 1) := by decide +kernel
theorem dX7_isSo_39 : decode cX7_isSo 39 = .ok (.goto 4, 3) := by decide +kernel
theorem dX7_isSo_42 : decode cX7_isSo 42 = .ok (.iconst 0, 1) := by decide +kernel
theorem dX7_isSo_43 : decode cX7_isSo 43 = .ok (.ireturn, 1) := by decide +kernel
theorem dX7_isSo_44 : decode cX7_isSo 44 = .ok (.iload_n 1, 1) := by decide +kernel
theorem dX7_isSo_45 : decode cX7_isSo 45 = .ok (.bipush 6, 2) := by decide +kernel
theorem dX7_isSo_47 : decode cX7_isSo 47 = .ok (.if_icmp .ne 49, 3) := by decide +kernel
theorem dX7_isSo_50 : decode cX7_isSo 50 = .ok (.ldc2_w 162, 3) := by decide +kernel
theorem dX7_isSo_53 : decode cX7_isSo 53 = .ok (.aload_n 0, 1) := by decide +kernel
theorem dX7_isSo_54 : decode cX7_isSo 54 = .ok (.getfield 92, 3) := by decide +kernel
theorem dX7_isSo_57 : decode cX7_isSo 57 = .ok (.lmul, 1) := by decide +kernel
theorem dX7_isSo_58 : decode cX7_isSo 58 = .ok (.aload_n 0, 1) := by decide +kernel
theorem dX7_isSo_59 : decode cX7_isSo 59 = .ok (.getfield 205, 3) := by decide +kernel
theorem dX7_isSo_62 : decode cX7_isSo 62 = .ok (.ldc2_w 217, 3) := by decide +kernel
theorem dX7_isSo_65 : decode cX7_isSo 65 = .ok (.ladd, 1) := by decide +kernel
theorem dX7_isSo_66 : decode cX7_isSo 66 = .ok (.lcmp, 1) := by decide +kernel
theorem dX7_isSo_67 : decode cX7_isSo 67 = .ok (.ifCond .gt 23, 3) := by decide +kernel
theorem dX7_isSo_70 : decode cX7_isSo 70 = .ok (.ldc2_w 219, 3) := by decide +kernel
theorem dX7_isSo_73 : decode cX7_isSo 73 = .ok (.aload_n 0, 1) := by decide +kernel
theorem dX7_isSo_74 : decode cX7_isSo 74 = .ok (.getfield 92, 3) := by decide +kernel
theorem dX7_isSo_77 : decode cX7_isSo 77 = .ok (.lmul, 1) := by decide +kernel
theorem dX7_isSo_78 : decode cX7_isSo 78 = .ok (.aload_n 0, 1) := by decide +kernel
theorem dX7_isSo_79 : decode cX7_isSo 79 = .ok (.getfield 210, 3) := by decide +kernel
theorem dX7_isSo_82 : decode cX7_isSo 82 = .ok (.ldc2_w 217, 3) := by decide +kernel
theorem dX7_isSo_85 : decode cX7_isSo 85 = .ok (.ladd, 1) := by decide +kernel
theorem dX7_isSo_86 : decode cX7_isSo 86 = .ok (.lcmp, 1) := by decide +kernel
theorem dX7_isSo_87 : decode cX7_isSo 87 = .ok (.ifCond .le 7, 3) := by decide +kernel
theorem dX7_isSo_90 : decode cX7_isSo 90 = .ok (.iconst 1, 1) := by decide +kernel
theorem dX7_isSo_91 : decode cX7_isSo 91 = .ok (.goto 4, 3) := by decide +kernel
theorem dX7_isSo_94 : decode cX7_isSo 94 = .ok (.iconst 0, 1) := by decide +kernel
theorem dX7_isSo_95 : decode cX7_isSo 95 = .ok (.ireturn, 1) := by decide +kernel
theorem dX7_isSo_96 : decode cX7_isSo 96 = .ok (.iconst 0, 1) := by decide +kernel
theorem dX7_isSo_97 : decode cX7_isSo 97 = .ok (.istore_n 2, 1) := by decide +kernel
theorem dX7_isSo_98 : decode cX7_isSo 98 = .ok (.iload_n 2, 1) := by decide +kernel
theorem dX7_isSo_99 : decode cX7_isSo 99 = .ok (.bipush 6, 2) := by decide +kernel
theorem dX7_isSo_101 : decode cX7_isSo 101 = .ok (.aload_n 0, 1) := by decide +kernel
theorem dX7_isSo_102 : decode cX7_isSo 102 = .ok (.getfield 49, 3) := by decide +kernel
theorem dX7_isSo_105 : decode cX7_isSo 105 = .ok (.imul, 1) := by decide +kernel
theorem dX7_isSo_106 : decode cX7_isSo 106 = .ok (.if_icmp .ge 111, 3) := by decide +kernel
theorem dX7_isSo_109 : decode cX7_isSo 109 = .ok (.iload_n 2, 1) := by decide +kernel
theorem dX7_isSo_110 : decode cX7_isSo 110 = .ok (.bipush 6, 2) := by decide +kernel
theorem dX7_isSo_112 : decode cX7_isSo 112 = .ok (.idiv, 1) := by decide +kernel
theorem dX7_isSo_113 : decode cX7_isSo 113 = .ok (.istore_n 3, 1) := by decide +kernel
theorem dX7_isSo_114 : decode cX7_isSo 114 = .ok (.aload_n 0, 1) := by decide +kernel
theorem dX7_isSo_115 : decode cX7_isSo 115 = .ok (.iload_n 3, 1) := by decide +kernel
theorem dX7_isSo_116 : decode cX7_isSo 116 = .ok (.invokevirtual 122, 3) := by decide +kernel
theorem dX7_isSo_119 : decode cX7_isSo 119 = .ok (.istore 4, 2) := by decide +kernel
theorem dX7_isSo_121 : decode cX7_isSo 121 = .ok (.aload_n 0, 1) := by decide +kernel
theorem dX7_isSo_122 : decode cX7_isSo 122 = .ok (.iload_n 3, 1) := by decide +kernel
theorem dX7_isSo_123 : decode cX7_isSo 123 = .ok (.iload_n 2, 1) := by decide +kernel
theorem dX7_isSo_124 : decode cX7_isSo 124 = .ok (.bipush 6, 2) := by decide +kernel
theorem dX7_isSo_126 : decode cX7_isSo 126 = .ok (.irem, 1) := by decide +kernel
theorem dX7_isSo_127 : decode cX7_isSo 127 = .ok (.invokevirtual 130, 3) := by decide +kernel
theorem dX7_isSo_130 : decode cX7_isSo 130 = .ok (.istore 5, 2) := by decide +kernel
theorem dX7_isSo_132 : decode cX7_isSo 132 = .ok (.iload 5, 2) := by decide +kernel
theorem dX7_isSo_134 : decode cX7_isSo 134 = .ok (.ifCond .eq 16, 3) := by decide +kernel
theorem dX7_isSo_137 : decode cX7_isSo 137 = .ok (.aload_n 0, 1) := by decide +kernel
theorem dX7_isSo_138 : decode cX7_isSo 138 = .ok (.iload_n 3, 1) := by decide +kernel
theorem dX7_isSo_139 : decode cX7_isSo 139 = .ok (.iload_n 2, 1) := by decide +kernel
theorem dX7_isSo_140 : decode cX7_isSo 140 = .ok (.bipush 6, 2) := by decide +kernel
theorem dX7_isSo_142 : decode cX7_isSo 142 = .ok (.irem, 1) := by decide +kernel
theorem dX7_isSo_143 : decode cX7_isSo 143 = .ok (.iconst 0, 1) := by decide +kernel
theorem dX7_isSo_144 : decode cX7_isSo 144 = .ok (.invokevirtual 117, 3) := by decide +kernel
theorem dX7_isSo_147 : decode cX7_isSo 147 = .ok (.goto 6, 3) := by decide +kernel
theorem dX7_isSo_150 : decode cX7_isSo 150 = .ok (.sipush 3000, 3) := by decide +kernel
theorem dX7_isSo_153 : decode cX7_isSo 153 = .ok (.istore 6, 2) := by decide +kernel
theorem dX7_isSo_155 : decode cX7_isSo 155 = .ok (.iload_n 1, 1) := by decide +kernel
theorem dX7_isSo_156 : decode cX7_isSo 156 = .ok (.ifCond .ne 11, 3) := by decide +kernel
theorem dX7_isSo_159 : decode cX7_isSo 159 = .ok (.iload 4, 2) := by decide +kernel
theorem dX7_isSo_161 : decode cX7_isSo 161 = .ok (.ifCond .eq 50, 3) := by decide +kernel
theorem dX7_isSo_164 : decode cX7_isSo 164 = .ok (.goto 45, 3) := by decide +kernel
theorem dX7_isSo_167 : decode cX7_isSo 167 = .ok (.iload_n 1, 1) := by decide +kernel
theorem dX7_isSo_168 : decode cX7_isSo 168 = .ok (.iconst 1, 1) := by decide +kernel
theorem dX7_isSo_169 : decode cX7_isSo 169 = .ok (.if_icmp .ne 16, 3) := by decide +kernel
theorem dX7_isSo_172 : decode cX7_isSo 172 = .ok (.iload 4, 2) := by decide +kernel
theorem dX7_isSo_174 : decode cX7_isSo 174 = .ok (.ifCond .ne 37, 3) := by decide +kernel
theorem dX7_isSo_177 : decode cX7_isSo 177 = .ok (.iload 5, 2) := by decide +kernel
theorem dX7_isSo_179 : decode cX7_isSo 179 = .ok (.ifCond .ne 32, 3) := by decide +kernel
theorem dX7_isSo_182 : decode cX7_isSo 182 = .ok (.goto 27, 3) := by decide +kernel
theorem dX7_isSo_185 : decode cX7_isSo 185 = .ok (.iload_n 1, 1) := by decide +kernel
theorem dX7_isSo_186 : decode cX7_isSo 186 = .ok (.iconst 2, 1) := by decide +kernel
theorem dX7_isSo_187 : decode cX7_isSo 187 = .ok (.if_icmp .ne 14, 3) := by decide +kernel
theorem dX7_isSo_190 : decode cX7_isSo 190 = .ok (.iload 6, 2) := by decide +kernel
theorem dX7_isSo_192 : decode cX7_isSo 192 = .ok (.sipush 4200, 3) := by decide +kernel
theorem dX7_isSo_195 : decode cX7_isSo 195 = .ok (.if_icmp .le 16, 3) := by decide +kernel
theorem dX7_isSo_198 : decode cX7_isSo 198 = .ok (.goto 11, 3) := by decide +kernel
theorem dX7_isSo_201 : decode cX7_isSo 201 = .ok (.iload 6, 2) := by decide +kernel
theorem dX7_isSo_203 : decode cX7_isSo 203 = .ok (.sipush 2500, 3) := by decide +kernel
theorem dX7_isSo_206 : decode cX7_isSo 206 = .ok (.if_icmp .ge 5, 3) := by decide +kernel
theorem dX7_isSo_209 : decode cX7_isSo 209 = .ok (.iconst 1, 1) := by decide +kernel
theorem dX7_isSo_210 : decode cX7_isSo 210 = .ok (.ireturn, 1) := by decide +kernel
theorem dX7_isSo_211 : decode cX7_isSo 211 = .ok (.iinc 2 1, 3) := by decide +kernel
theorem dX7_isSo_214 : decode cX7_isSo 214 = .ok (.goto (-116), 3) := by decide +kernel
theorem dX7_isSo_217 : decode cX7_isSo 217 = .ok (.iconst 0, 1) := by decide +kernel
theorem dX7_isSo_218 : decode cX7_isSo 218 = .ok (.ireturn, 1) := by decide +kernel
theorem dX7_latch_0 : decode cX7_latch 0 = .ok (.aload_n 0, 1) := by decide +kernel
theorem dX7_latch_1 : decode cX7_latch 1 = .ok (.aload_n 0, 1) := by decide +kernel
theorem dX7_latch_2 : decode cX7_latch 2 = .ok (.getfield 221, 3) := by decide +kernel
theorem dX7_latch_5 : decode cX7_latch 5 = .ok (.ifCond .ne 14, 3) := by decide +kernel
theorem dX7_latch_8 : decode cX7_latch 8 = .ok (.aload_n 0, 1) := by decide +kernel
theorem dX7_latch_9 : decode cX7_latch 9 = .ok (.getfield 224, 3) := by decide +kernel
theorem dX7_latch_12 : decode cX7_latch 12 = .ok (.iload_n 1, 1) := by decide +kernel
theorem dX7_latch_13 : decode cX7_latch 13 = .ok (.ishr, 1) := by decide +kernel
theorem dX7_latch_14 : decode cX7_latch 14 = .ok (.iconst 1, 1) := by decide +kernel
theorem dX7_latch_15 : decode cX7_latch 15 = .ok (.iand, 1) := by decide +kernel
theorem dX7_latch_16 : decode cX7_latch 16 = .ok (.ifCond .ne 7, 3) := by decide +kernel
theorem dX7_latch_19 : decode cX7_latch 19 = .ok (.iconst 1, 1) := by decide +kernel
theorem dX7_latch_20 : decode cX7_latch 20 = .ok (.goto 4, 3) := by decide +kernel
theorem dX7_latch_23 : decode cX7_latch 23 = .ok (.iconst 0, 1) := by decide +kernel
theorem dX7_latch_24 : decode cX7_latch 24 = .ok (.putfield 221, 3) := by decide +kernel
theorem dX7_latch_27 : decode cX7_latch 27 = .ok (.aload_n 0, 1) := by decide +kernel
theorem dX7_latch_28 : decode cX7_latch 28 = .ok (.aload_n 0, 1) := by decide +kernel
theorem dX7_latch_29 : decode cX7_latch 29 = .ok (.getfield 224, 3) := by decide +kernel
theorem dX7_latch_32 : decode cX7_latch 32 = .ok (.iconst 1, 1) := by decide +kernel
theorem dX7_latch_33 : decode cX7_latch 33 = .ok (.iload_n 1, 1) := by decide +kernel
theorem dX7_latch_34 : decode cX7_latch 34 = .ok (.ishl, 1) := by decide +kernel
theorem dX7_latch_35 : decode cX7_latch 35 = .ok (.ior, 1) := by decide +kernel
theorem dX7_latch_36 : decode cX7_latch 36 = .ok (.putfield 224, 3) := by decide +kernel
theorem dX7_latch_39 : decode cX7_latch 39 = .ok (.return_, 1) := by decide +kernel
theorem dX7_isSerious_0 : decode cX7_isSerious 0 = .ok (.aload_n 0, 1) := by decide +kernel
theorem dX7_isSerious_1 : decode cX7_isSerious 1 = .ok (.getfield 224, 3) := by decide +kernel
theorem dX7_isSerious_4 : decode cX7_isSerious 4 = .ok (.bipush (-35), 2) := by decide +kernel
theorem dX7_isSerious_6 : decode cX7_isSerious 6 = .ok (.iand, 1) := by decide +kernel
theorem dX7_isSerious_7 : decode cX7_isSerious 7 = .ok (.ifCond .eq 7, 3) := by decide +kernel
theorem dX7_isSerious_10 : decode cX7_isSerious 10 = .ok (.iconst 1, 1) := by decide +kernel
theorem dX7_isSerious_11 : decode cX7_isSerious 11 = .ok (.goto 4, 3) := by decide +kernel
theorem dX7_isSerious_14 : decode cX7_isSerious 14 = .ok (.iconst 0, 1) := by decide +kernel
theorem dX7_isSerious_15 : decode cX7_isSerious 15 = .ok (.ireturn, 1) := by decide +kernel
set_option maxRecDepth 20000 in
theorem ggX7_causes_X7_isSo : GoodIn wsX7_causes wsX7_isSo := goodIn_r _ [7, 8, 9, 10, 11, 12, 13, 14, 15, 16, 17, 18, 19, 6, 20, 21, 22, 23, 24, 25, 26, 27, 28, 29, 30, 31, 32, 33, 34, 35, 36, 37, 38, 39, 40, 41, 42, 43, 44, 45, 46, 47, 54, 55, 56, 57, 58, 59, 60, 61, 62, 63, 64, 65, 66, 67, 68, 69, 70, 71, 72, 73, 74, 75, 76, 77, 78, 79, 80, 81, 82, 83, 84, 85] (by decide +kernel) (by decide +kernel)
set_option maxRecDepth 20000 in
theorem gX7_causes_X7_isSo : GoodIn wsX7_causes (wsV RX7 227 RX7 yX7_isSo wsX7_isSo) := goodIn_app (goodIn_of _ (by decide +kernel)) ggX7_causes_X7_isSo
set_option maxRecDepth 20000 in
theorem ggX7_causes_X7_latch : GoodIn wsX7_causes wsX7_latch := goodIn_r _ [51, 52, 53, 54, 55, 56, 57, 58, 59, 60, 61, 62, 63, 64, 65, 66, 67, 68, 69, 70, 71, 72, 73, 74, 75, 76, 77, 78, 79, 80, 81, 82, 83, 84, 85] (by decide +kernel) (by decide +kernel)
set_option maxRecDepth 20000 in
theorem gX7_causes_X7_latch : GoodIn wsX7_causes (wsV RX7 230 RX7 yX7_latch wsX7_latch) := goodIn_app (goodIn_of _ (by decide +kernel)) ggX7_causes_X7_latch
theorem dX7_causes_0 : decode cX7_causes 0 = .ok (.iconst 0, 1) := by decide +kernel
theorem dX7_causes_1 : decode cX7_causes 1 = .ok (.istore_n 1, 1) := by decide +kernel
theorem dX7_causes_2 : decode cX7_causes 2 = .ok (.iload_n 1, 1) := by decide +kernel
theorem dX7_causes_3 : decode cX7_causes 3 = .ok (.bipush 7, 2) := by decide +kernel
theorem dX7_causes_5 : decode cX7_causes 5 = .ok (.if_icmp .ge 71, 3) := by decide +kernel
theorem dX7_causes_8 : decode cX7_causes 8 = .ok (.aload_n 0, 1) := by decide +kernel
theorem dX7_causes_9 : decode cX7_causes 9 = .ok (.getfield 35, 3) := by decide +kernel
theorem dX7_causes_12 : decode cX7_causes 12 = .ok (.iload_n 1, 1) := by decide +kernel
theorem dX7_causes_13 : decode cX7_causes 13 = .ok (.aload_n 0, 1) := by decide +kernel
theorem dX7_causes_14 : decode cX7_causes 14 = .ok (.iload_n 1, 1) := by decide +kernel
theorem dX7_causes_15 : decode cX7_causes 15 = .ok (.invokevirtual 227, 3) := by decide +kernel
theorem dX7_causes_18 : decode cX7_causes 18 = .ok (.ifCond .ne 7, 3) := by decide +kernel
theorem dX7_causes_21 : decode cX7_causes 21 = .ok (.iconst 0, 1) := by decide +kernel
theorem dX7_causes_22 : decode cX7_causes 22 = .ok (.goto 29, 3) := by decide +kernel
theorem dX7_causes_25 : decode cX7_causes 25 = .ok (.aload_n 0, 1) := by decide +kernel
theorem dX7_causes_26 : decode cX7_causes 26 = .ok (.getfield 35, 3) := by decide +kernel
theorem dX7_causes_29 : decode cX7_causes 29 = .ok (.iload_n 1, 1) := by decide +kernel
theorem dX7_causes_30 : decode cX7_causes 30 = .ok (.iaload, 1) := by decide +kernel
theorem dX7_causes_31 : decode cX7_causes 31 = .ok (.sipush 255, 3) := by decide +kernel
theorem dX7_causes_34 : decode cX7_causes 34 = .ok (.if_icmp .ge 14, 3) := by decide +kernel
theorem dX7_causes_37 : decode cX7_causes 37 = .ok (.aload_n 0, 1) := by decide +kernel
theorem dX7_causes_38 : decode cX7_causes 38 = .ok (.getfield 35, 3) := by decide +kernel
theorem dX7_causes_41 : decode cX7_causes 41 = .ok (.iload_n 1, 1) := by decide +kernel
theorem dX7_causes_42 : decode cX7_causes 42 = .ok (.iaload, 1) := by decide +kernel
theorem dX7_causes_43 : decode cX7_causes 43 = .ok (.iconst 1, 1) := by decide +kernel
theorem dX7_causes_44 : decode cX7_causes 44 = .ok (.iadd, 1) := by decide +kernel
theorem dX7_causes_45 : decode cX7_causes 45 = .ok (.goto 6, 3) := by decide +kernel
theorem dX7_causes_48 : decode cX7_causes 48 = .ok (.sipush 255, 3) := by decide +kernel
theorem dX7_causes_51 : decode cX7_causes 51 = .ok (.iastore, 1) := by decide +kernel
theorem dX7_causes_52 : decode cX7_causes 52 = .ok (.aload_n 0, 1) := by decide +kernel
theorem dX7_causes_53 : decode cX7_causes 53 = .ok (.getfield 35, 3) := by decide +kernel
theorem dX7_causes_56 : decode cX7_causes 56 = .ok (.iload_n 1, 1) := by decide +kernel
theorem dX7_causes_57 : decode cX7_causes 57 = .ok (.iaload, 1) := by decide +kernel
theorem dX7_causes_58 : decode cX7_causes 58 = .ok (.aload_n 0, 1) := by decide +kernel
theorem dX7_causes_59 : decode cX7_causes 59 = .ok (.getfield 61, 3) := by decide +kernel
theorem dX7_causes_62 : decode cX7_causes 62 = .ok (.if_icmp .lt 8, 3) := by decide +kernel
theorem dX7_causes_65 : decode cX7_causes 65 = .ok (.aload_n 0, 1) := by decide +kernel
theorem dX7_causes_66 : decode cX7_causes 66 = .ok (.iload_n 1, 1) := by decide +kernel
theorem dX7_causes_67 : decode cX7_causes 67 = .ok (.invokevirtual 230, 3) := by decide +kernel
theorem dX7_causes_70 : decode cX7_causes 70 = .ok (.iinc 1 1, 3) := by decide +kernel
theorem dX7_causes_73 : decode cX7_causes 73 = .ok (.goto (-71), 3) := by decide +kernel
theorem dX7_causes_76 : decode cX7_causes 76 = .ok (.return_, 1) := by decide +kernel
theorem dX7_become_0 : decode cX7_become 0 = .ok (.aload_n 0, 1) := by decide +kernel
theorem dX7_become_1 : decode cX7_become 1 = .ok (.iload_n 1, 1) := by decide +kernel
theorem dX7_become_2 : decode cX7_become 2 = .ok (.putfield 234, 3) := by decide +kernel
theorem dX7_become_5 : decode cX7_become 5 = .ok (.aload_n 0, 1) := by decide +kernel
theorem dX7_become_6 : decode cX7_become 6 = .ok (.iconst 0, 1) := by decide +kernel
theorem dX7_become_7 : decode cX7_become 7 = .ok (.putfield 237, 3) := by decide +kernel
theorem dX7_become_10 : decode cX7_become 10 = .ok (.return_, 1) := by decide +kernel
set_option maxRecDepth 20000 in
theorem ggX7_contactors_X7_isSerious : GoodIn wsX7_contactors wsX7_isSerious := goodIn_r _ [12, 13, 54, 55, 56, 57, 58, 59, 60, 61, 62, 63, 64, 65, 66, 67, 68, 69, 70, 71, 72, 73, 74, 75, 76, 77, 78, 79, 80, 81, 82, 83, 84, 85] (by decide +kernel) (by decide +kernel)
set_option maxRecDepth 20000 in
theorem gX7_contactors_X7_isSerious : GoodIn wsX7_contactors (wsV RX7 240 RX7 yX7_isSerious wsX7_isSerious) := goodIn_app (goodIn_of _ (by decide +kernel)) ggX7_contactors_X7_isSerious
set_option maxRecDepth 20000 in
theorem ggX7_contactors_X7_become : GoodIn wsX7_contactors wsX7_become := goodIn_r _ [17, 3, 1, 54, 55, 56, 57, 58, 59, 60, 61, 62, 63, 64, 65, 66, 67, 68, 69, 70, 71, 72, 73, 74, 75, 76, 77, 78, 79, 80, 81, 82, 83, 84, 85] (by decide +kernel) (by decide +kernel)
set_option maxRecDepth 20000 in
theorem gX7_contactors_X7_become : GoodIn wsX7_contactors (wsV RX7 243 RX7 yX7_become wsX7_become) := goodIn_app (goodIn_of _ (by decide +kernel)) ggX7_contactors_X7_become
set_option maxRecDepth 20000 in
theorem ggX7_contactors_X7_areAllValid : GoodIn wsX7_contactors wsX7_areAllValid := goodIn_r _ [21, 22, 23, 24, 25, 11, 26, 27, 28, 29, 30, 31, 32, 33, 34, 35, 36, 37, 38, 39, 40, 41, 42, 43, 44, 54, 55, 56, 57, 58, 59, 60, 61, 62, 63, 64, 65, 66, 67, 68, 69, 70, 71, 72, 73, 74, 75, 76, 77, 78, 79, 80, 81, 82, 83, 84, 85] (by decide +kernel) (by decide +kernel)
set_option maxRecDepth 20000 in
theorem gX7_contactors_X7_areAllValid : GoodIn wsX7_contactors (wsV RX7 158 RX7 yX7_areAllValid wsX7_areAllValid) := goodIn_app (goodIn_of _ (by decide +kernel)) ggX7_contactors_X7_areAllValid
set_option maxRecDepth 20000 in
theorem ggX7_contactors_X7_sum : GoodIn wsX7_contactors wsX7_sum := goodIn_r _ [48, 22, 23, 24, 25, 11, 26, 27, 28, 29, 30, 31, 32, 33, 34, 35, 36, 37, 38, 39, 40, 41, 42, 43, 44, 54, 55, 56, 57, 58, 59, 60, 61, 62, 63, 64, 65, 66, 67, 68, 69, 70, 71, 72, 73, 74, 75, 76, 77, 78, 79, 80, 81, 82, 83, 84, 85] (by decide +kernel) (by decide +kernel)
set_option maxRecDepth 20000 in
theorem gX7_contactors_X7_sum : GoodIn wsX7_contactors (wsV RX7 164 RX7 yX7_sum wsX7_sum) := goodIn_app (goodIn_of _ (by decide +kernel)) ggX7_contactors_X7_sum
set_option maxRecDepth 20000 in
theorem ggX7_contactors_X7_latch : GoodIn wsX7_contactors wsX7_latch := goodIn_r _ [52, 53, 13, 54, 55, 56, 57, 58, 59, 60, 61, 62, 63, 64, 65, 66, 67, 68, 69, 70, 71, 72, 73, 74, 75, 76, 77, 78, 79, 80, 81, 82, 83, 84, 85] (by decide +kernel) (by decide +kernel)
set_option maxRecDepth 20000 in
theorem gX7_contactors_X7_latch : GoodIn wsX7_contactors (wsV RX7 230 RX7 yX7_latch wsX7_latch) := goodIn_app (goodIn_of _ (by decide +kernel)) ggX7_contactors_X7_latch
theorem dX7_contactors_0 : decode cX7_contactors 0 = .ok (.aload_n 0, 1) := by decide +kernel
theorem dX7_contactors_1 : decode cX7_contactors 1 = .ok (.dup, 1) := by decide +kernel
theorem dX7_contactors_2 : decode cX7_contactors 2 = .ok (.getfield 237, 3) := by decide +kernel
theorem dX7_contactors_5 : decode cX7_contactors 5 = .ok (.iconst 1, 1) := by decide +kernel
theorem dX7_contactors_6 : decode cX7_contactors 6 = .ok (.iadd, 1) := by decide +kernel
theorem dX7_contactors_7 : decode cX7_contactors 7 = .ok (.putfield 237, 3) := by decide +kernel
theorem dX7_contactors_10 : decode cX7_contactors 10 = .ok (.aload_n 0, 1) := by decide +kernel
theorem dX7_contactors_11 : decode cX7_contactors 11 = .ok (.getfield 109, 3) := by decide +kernel
theorem dX7_contactors_14 : decode cX7_contactors 14 = .ok (.ifCond .eq 14, 3) := by decide +kernel
theorem dX7_contactors_17 : decode cX7_contactors 17 = .ok (.aload_n 0, 1) := by decide +kernel
theorem dX7_contactors_18 : decode cX7_contactors 18 = .ok (.invokevirtual 240, 3) := by decide +kernel
theorem dX7_contactors_21 : decode cX7_contactors 21 = .ok (.ifCond .ne 7, 3) := by decide +kernel
theorem dX7_contactors_24 : decode cX7_contactors 24 = .ok (.iconst 1, 1) := by decide +kernel
theorem dX7_contactors_25 : decode cX7_contactors 25 = .ok (.goto 4, 3) := by decide +kernel
theorem dX7_contactors_28 : decode cX7_contactors 28 = .ok (.iconst 0, 1) := by decide +kernel
theorem dX7_contactors_29 : decode cX7_contactors 29 = .ok (.istore_n 1, 1) := by decide +kernel
theorem dX7_contactors_30 : decode cX7_contactors 30 = .ok (.aload_n 0, 1) := by decide +kernel
theorem dX7_contactors_31 : decode cX7_contactors 31 = .ok (.getfield 234, 3) := by decide +kernel
theorem dX7_contactors_34 : decode cX7_contactors 34 = .ok (.ifCond .le 23, 3) := by decide +kernel
theorem dX7_contactors_37 : decode cX7_contactors 37 = .ok (.aload_n 0, 1) := by decide +kernel
theorem dX7_contactors_38 : decode cX7_contactors 38 = .ok (.getfield 234, 3) := by decide +kernel
theorem dX7_contactors_41 : decode cX7_contactors 41 = .ok (.iconst 4, 1) := by decide +kernel
theorem dX7_contactors_42 : decode cX7_contactors 42 = .ok (.if_icmp .ge 15, 3) := by decide +kernel
theorem dX7_contactors_45 : decode cX7_contactors 45 = .ok (.iload_n 1, 1) := by decide +kernel
theorem dX7_contactors_46 : decode cX7_contactors 46 = .ok (.ifCond .ne 11, 3) := by decide +kernel
theorem dX7_contactors_49 : decode cX7_contactors 49 = .ok (.aload_n 0, 1) := by decide +kernel
theorem dX7_contactors_50 : decode cX7_contactors 50 = .ok (.iconst 4, 1) := by decide +kernel
theorem dX7_contactors_51 : decode cX7_contactors 51 = .ok (.invokevirtual 243, 3) := by decide +kernel
theorem dX7_contactors_54 : decode cX7_contactors 54 = .ok (.goto 167, 3) := by decide +kernel
theorem dX7_contactors_57 : decode cX7_contactors 57 = .ok (.aload_n 0, 1) := by decide +kernel
theorem dX7_contactors_58 : decode cX7_contactors 58 = .ok (.getfield 234, 3) := by decide +kernel
theorem dX7_contactors_61 : decode cX7_contactors 61 = .ok (.ifCond .ne 15, 3) := by decide +kernel
theorem dX7_contactors_64 : decode cX7_contactors 64 = .ok (.iload_n 1, 1) := by decide +kernel
theorem dX7_contactors_65 : decode cX7_contactors 65 = .ok (.ifCond .eq 11, 3) := by decide +kernel
theorem dX7_contactors_68 : decode cX7_contactors 68 = .ok (.aload_n 0, 1) := by decide +kernel
theorem dX7_contactors_69 : decode cX7_contactors 69 = .ok (.iconst 1, 1) := by decide +kernel
theorem dX7_contactors_70 : decode cX7_contactors 70 = .ok (.invokevirtual 243, 3) := by decide +kernel
theorem dX7_contactors_73 : decode cX7_contactors 73 = .ok (.goto 148, 3) := by decide +kernel
theorem dX7_contactors_76 : decode cX7_contactors 76 = .ok (.aload_n 0, 1) := by decide +kernel
theorem dX7_contactors_77 : decode cX7_contactors 77 = .ok (.getfield 234, 3) := by decide +kernel
theorem dX7_contactors_80 : decode cX7_contactors 80 = .ok (.iconst 1, 1) := by decide +kernel
theorem dX7_contactors_81 : decode cX7_contactors 81 = .ok (.if_icmp .ne 19, 3) := by decide +kernel
theorem dX7_contactors_84 : decode cX7_contactors 84 = .ok (.aload_n 0, 1) := by decide +kernel
theorem dX7_contactors_85 : decode cX7_contactors 85 = .ok (.getfield 237, 3) := by decide +kernel
theorem dX7_contactors_88 : decode cX7_contactors 88 = .ok (.iconst 2, 1) := by decide +kernel
theorem dX7_contactors_89 : decode cX7_contactors 89 = .ok (.if_icmp .lt 11, 3) := by decide +kernel
theorem dX7_contactors_92 : decode cX7_contactors 92 = .ok (.aload_n 0, 1) := by decide +kernel
theorem dX7_contactors_93 : decode cX7_contactors 93 = .ok (.iconst 2, 1) := by decide +kernel
theorem dX7_contactors_94 : decode cX7_contactors 94 = .ok (.invokevirtual 243, 3) := by decide +kernel
theorem dX7_contactors_97 : decode cX7_contactors 97 = .ok (.goto 124, 3) := by decide +kernel
theorem dX7_contactors_100 : decode cX7_contactors 100 = .ok (.aload_n 0, 1) := by decide +kernel
theorem dX7_contactors_101 : decode cX7_contactors 101 = .ok (.getfield 234, 3) := by decide +kernel
theorem dX7_contactors_104 : decode cX7_contactors 104 = .ok (.iconst 2, 1) := by decide +kernel
theorem dX7_contactors_105 : decode cX7_contactors 105 = .ok (.if_icmp .ne 40, 3) := by decide +kernel
theorem dX7_contactors_108 : decode cX7_contactors 108 = .ok (.aload_n 0, 1) := by decide +kernel
theorem dX7_contactors_109 : decode cX7_contactors 109 = .ok (.invokevirtual 158, 3) := by decide +kernel
theorem dX7_contactors_112 : decode cX7_contactors 112 = .ok (.ifCond .eq 33, 3) := by decide +kernel
theorem dX7_contactors_115 : decode cX7_contactors 115 = .ok (.ldc2_w 246, 3) := by decide +kernel
theorem dX7_contactors_118 : decode cX7_contactors 118 = .ok (.aload_n 0, 1) := by decide +kernel
theorem dX7_contactors_119 : decode cX7_contactors 119 = .ok (.getfield 106, 3) := by decide +kernel
theorem dX7_contactors_122 : decode cX7_contactors 122 = .ok (.i2l, 1) := by decide +kernel
theorem dX7_contactors_123 : decode cX7_contactors 123 = .ok (.lmul, 1) := by decide +kernel
theorem dX7_contactors_124 : decode cX7_contactors 124 = .ok (.ldc2_w 248, 3) := by decide +kernel
theorem dX7_contactors_127 : decode cX7_contactors 127 = .ok (.aload_n 0, 1) := by decide +kernel
theorem dX7_contactors_128 : decode cX7_contactors 128 = .ok (.invokevirtual 164, 3) := by decide +kernel
theorem dX7_contactors_131 : decode cX7_contactors 131 = .ok (.i2l, 1) := by decide +kernel
theorem dX7_contactors_132 : decode cX7_contactors 132 = .ok (.lmul, 1) := by decide +kernel
theorem dX7_contactors_133 : decode cX7_contactors 133 = .ok (.lcmp, 1) := by decide +kernel
theorem dX7_contactors_134 : decode cX7_contactors 134 = .ok (.ifCond .lt 11, 3) := by decide +kernel
theorem dX7_contactors_137 : decode cX7_contactors 137 = .ok (.aload_n 0, 1) := by decide +kernel
theorem dX7_contactors_138 : decode cX7_contactors 138 = .ok (.iconst 3, 1) := by decide +kernel
theorem dX7_contactors_139 : decode cX7_contactors 139 = .ok (.invokevirtual 243, 3) := by decide +kernel
theorem dX7_contactors_142 : decode cX7_contactors 142 = .ok (.goto 79, 3) := by decide +kernel
theorem dX7_contactors_145 : decode cX7_contactors 145 = .ok (.aload_n 0, 1) := by decide +kernel
theorem dX7_contactors_146 : decode cX7_contactors 146 = .ok (.getfield 234, 3) := by decide +kernel
theorem dX7_contactors_149 : decode cX7_contactors 149 = .ok (.iconst 2, 1) := by decide +kernel
theorem dX7_contactors_150 : decode cX7_contactors 150 = .ok (.if_icmp .ne 26, 3) := by decide +kernel
theorem dX7_contactors_153 : decode cX7_contactors 153 = .ok (.aload_n 0, 1) := by decide +kernel
theorem dX7_contactors_154 : decode cX7_contactors 154 = .ok (.getfield 237, 3) := by decide +kernel
theorem dX7_contactors_157 : decode cX7_contactors 157 = .ok (.bipush 30, 2) := by decide +kernel
theorem dX7_contactors_159 : decode cX7_contactors 159 = .ok (.if_icmp .lt 17, 3) := by decide +kernel
theorem dX7_contactors_162 : decode cX7_contactors 162 = .ok (.aload_n 0, 1) := by decide +kernel
theorem dX7_contactors_163 : decode cX7_contactors 163 = .ok (.bipush 7, 2) := by decide +kernel
theorem dX7_contactors_165 : decode cX7_contactors 165 = .ok (.invokevirtual 230, 3) := by decide +kernel
theorem dX7_contactors_168 : decode cX7_contactors 168 = .ok (.aload_n 0, 1) := by decide +kernel
theorem dX7_contactors_169 : decode cX7_contactors 169 = .ok (.iconst 4, 1) := by decide +kernel
theorem dX7_contactors_170 : decode cX7_contactors 170 = .ok (.invokevirtual 243, 3) := by decide +kernel
theorem dX7_contactors_173 : decode cX7_contactors 173 = .ok (.goto 48, 3) := by decide +kernel
theorem dX7_contactors_176 : decode cX7_contactors 176 = .ok (.aload_n 0, 1) := by decide +kernel
theorem dX7_contactors_177 : decode cX7_contactors 177 = .ok (.getfield 234, 3) := by decide +kernel
theorem dX7_contactors_180 : decode cX7_contactors 180 = .ok (.iconst 4, 1) := by decide +kernel
theorem dX7_contactors_181 : decode cX7_contactors 181 = .ok (.if_icmp .ne 40, 3) := by decide +kernel
theorem dX7_contactors_184 : decode cX7_contactors 184 = .ok (.aload_n 0, 1) := by decide +kernel
theorem dX7_contactors_185 : decode cX7_contactors 185 = .ok (.getfield 237, 3) := by decide +kernel
theorem dX7_contactors_188 : decode cX7_contactors 188 = .ok (.iconst 3, 1) := by decide +kernel
theorem dX7_contactors_189 : decode cX7_contactors 189 = .ok (.if_icmp .lt 32, 3) := by decide +kernel
theorem dX7_contactors_192 : decode cX7_contactors 192 = .ok (.aload_n 0, 1) := by decide +kernel
theorem dX7_contactors_193 : decode cX7_contactors 193 = .ok (.iconst 0, 1) := by decide +kernel
theorem dX7_contactors_194 : decode cX7_contactors 194 = .ok (.invokevirtual 243, 3) := by decide +kernel
theorem dX7_contactors_197 : decode cX7_contactors 197 = .ok (.ldc2_w 188, 3) := by decide +kernel
theorem dX7_contactors_200 : decode cX7_contactors 200 = .ok (.aload_n 0, 1) := by decide +kernel
theorem dX7_contactors_201 : decode cX7_contactors 201 = .ok (.getfield 106, 3) := by decide +kernel
theorem dX7_contactors_204 : decode cX7_contactors 204 = .ok (.i2l, 1) := by decide +kernel
theorem dX7_contactors_205 : decode cX7_contactors 205 = .ok (.lmul, 1) := by decide +kernel
theorem dX7_contactors_206 : decode cX7_contactors 206 = .ok (.aload_n 0, 1) := by decide +kernel
theorem dX7_contactors_207 : decode cX7_contactors 207 = .ok (.invokevirtual 164, 3) := by decide +kernel
theorem dX7_contactors_210 : decode cX7_contactors 210 = .ok (.i2l, 1) := by decide +kernel
theorem dX7_contactors_211 : decode cX7_contactors 211 = .ok (.lcmp, 1) := by decide +kernel
theorem dX7_contactors_212 : decode cX7_contactors 212 = .ok (.ifCond .le 9, 3) := by decide +kernel
theorem dX7_contactors_215 : decode cX7_contactors 215 = .ok (.aload_n 0, 1) := by decide +kernel
theorem dX7_contactors_216 : decode cX7_contactors 216 = .ok (.bipush 8, 2) := by decide +kernel
theorem dX7_contactors_218 : decode cX7_contactors 218 = .ok (.invokevirtual 230, 3) := by decide +kernel
theorem dX7_contactors_221 : decode cX7_contactors 221 = .ok (.return_, 1) := by decide +kernel
set_option maxRecDepth 20000 in
theorem ggX7_bleed_X7_isSerious : GoodIn wsX7_bleed wsX7_isSerious := goodIn_r _ [12, 13, 39, 40, 41, 42, 43, 44, 45, 46, 47, 48, 49, 50, 51, 52, 53, 54, 55, 56, 57, 58, 59, 60, 61, 62, 63, 64, 65, 66, 67, 68, 69, 70] (by decide +kernel) (by decide +kernel)
set_option maxRecDepth 20000 in
theorem gX7_bleed_X7_isSerious : GoodIn wsX7_bleed (wsV RX7 240 RX7 yX7_isSerious wsX7_isSerious) := goodIn_app (goodIn_of _ (by decide +kernel)) ggX7_bleed_X7_isSerious
set_option maxRecDepth 20000 in
theorem ggX7_bleed_X7_sizeOf : GoodIn wsX7_bleed wsX7_sizeOf := goodIn_r _ [16] (by decide +kernel) (by decide +kernel)
set_option maxRecDepth 20000 in
theorem gX7_bleed_X7_sizeOf : GoodIn wsX7_bleed (va_wsS RX7 147 yX7_sizeOf wsX7_sizeOf) := goodIn_app (goodIn_of _ (by decide +kernel)) ggX7_bleed_X7_sizeOf
set_option maxRecDepth 20000 in
theorem ggX7_bleed_X7_isValid : GoodIn wsX7_bleed wsX7_isValid := goodIn_r _ [20, 21, 22, 23, 24, 11, 25, 26, 27, 28, 29, 30, 31, 32, 33, 34, 35, 36, 37, 38, 39, 40, 41, 42, 43, 44, 45, 46, 47, 48, 49, 50, 51, 52, 53, 54, 55, 56, 57, 58, 59, 60, 61, 62, 63, 64, 65, 66, 67, 68, 69, 70] (by decide +kernel) (by decide +kernel)
set_option maxRecDepth 20000 in
theorem gX7_bleed_X7_isValid : GoodIn wsX7_bleed (wsV RX7 130 RX7 yX7_isValid wsX7_isValid) := goodIn_app (goodIn_of _ (by decide +kernel)) ggX7_bleed_X7_isValid
set_option maxRecDepth 20000 in
theorem ggX7_bleed_X7_numberOf : GoodIn wsX7_bleed wsX7_numberOf := goodIn_r _ [31, 26, 32, 39, 40, 41, 42, 43, 44, 45, 46, 47, 48, 49, 50, 51, 52, 53, 54, 55, 56, 57, 58, 59, 60, 61, 62, 63, 64, 65, 66, 67, 68, 69, 70] (by decide +kernel) (by decide +kernel)
set_option maxRecDepth 20000 in
theorem gX7_bleed_X7_numberOf : GoodIn wsX7_bleed (wsV RX7 117 RX7 yX7_numberOf wsX7_numberOf) := goodIn_app (goodIn_of _ (by decide +kernel)) ggX7_bleed_X7_numberOf
theorem dX7_bleed_0 : decode cX7_bleed 0 = .ok (.aload_n 0, 1) := by decide +kernel
theorem dX7_bleed_1 : decode cX7_bleed 1 = .ok (.getfield 234, 3) := by decide +kernel
theorem dX7_bleed_4 : decode cX7_bleed 4 = .ok (.ifCond .eq 11, 3) := by decide +kernel
theorem dX7_bleed_7 : decode cX7_bleed 7 = .ok (.aload_n 0, 1) := by decide +kernel
theorem dX7_bleed_8 : decode cX7_bleed 8 = .ok (.getfield 234, 3) := by decide +kernel
theorem dX7_bleed_11 : decode cX7_bleed 11 = .ok (.iconst 3, 1) := by decide +kernel
theorem dX7_bleed_12 : decode cX7_bleed 12 = .ok (.if_icmp .ne 28, 3) := by decide +kernel
theorem dX7_bleed_15 : decode cX7_bleed 15 = .ok (.aload_n 0, 1) := by decide +kernel
theorem dX7_bleed_16 : decode cX7_bleed 16 = .ok (.invokevirtual 240, 3) := by decide +kernel
theorem dX7_bleed_19 : decode cX7_bleed 19 = .ok (.ifCond .ne 21, 3) := by decide +kernel
theorem dX7_bleed_22 : decode cX7_bleed 22 = .ok (.aload_n 0, 1) := by decide +kernel
theorem dX7_bleed_23 : decode cX7_bleed 23 = .ok (.getfield 92, 3) := by decide +kernel
theorem dX7_bleed_26 : decode cX7_bleed 26 = .ok (.invokestatic 147, 3) := by decide +kernel
theorem dX7_bleed_29 : decode cX7_bleed 29 = .ok (.ldc2_w 250, 3) := by decide +kernel
theorem dX7_bleed_32 : decode cX7_bleed 32 = .ok (.lcmp, 1) := by decide +kernel
theorem dX7_bleed_33 : decode cX7_bleed 33 = .ok (.ifCond .ge 7, 3) := by decide +kernel
theorem dX7_bleed_36 : decode cX7_bleed 36 = .ok (.iconst 1, 1) := by decide +kernel
theorem dX7_bleed_37 : decode cX7_bleed 37 = .ok (.goto 4, 3) := by decide +kernel
theorem dX7_bleed_40 : decode cX7_bleed 40 = .ok (.iconst 0, 1) := by decide +kernel
theorem dX7_bleed_41 : decode cX7_bleed 41 = .ok (.istore_n 1, 1) := by decide +kernel
theorem dX7_bleed_42 : decode cX7_bleed 42 = .ok (.ldc 252, 2) := by decide +kernel
theorem dX7_bleed_44 : decode cX7_bleed 44 = .ok (.istore_n 2, 1) := by decide +kernel
theorem dX7_bleed_45 : decode cX7_bleed 45 = .ok (.iconst 0, 1) := by decide +kernel
theorem dX7_bleed_46 : decode cX7_bleed 46 = .ok (.istore_n 3, 1) := by decide +kernel
theorem dX7_bleed_47 : decode cX7_bleed 47 = .ok (.iload_n 3, 1) := by decide +kernel
theorem dX7_bleed_48 : decode cX7_bleed 48 = .ok (.bipush 6, 2) := by decide +kernel
theorem dX7_bleed_50 : decode cX7_bleed 50 = .ok (.aload_n 0, 1) := by decide +kernel
theorem dX7_bleed_51 : decode cX7_bleed 51 = .ok (.getfield 49, 3) := by decide +kernel
theorem dX7_bleed_54 : decode cX7_bleed 54 = .ok (.imul, 1) := by decide +kernel
theorem dX7_bleed_55 : decode cX7_bleed 55 = .ok (.if_icmp .ge 55, 3) := by decide +kernel
theorem dX7_bleed_58 : decode cX7_bleed 58 = .ok (.aload_n 0, 1) := by decide +kernel
theorem dX7_bleed_59 : decode cX7_bleed 59 = .ok (.iload_n 3, 1) := by decide +kernel
theorem dX7_bleed_60 : decode cX7_bleed 60 = .ok (.bipush 6, 2) := by decide +kernel
theorem dX7_bleed_62 : decode cX7_bleed 62 = .ok (.idiv, 1) := by decide +kernel
theorem dX7_bleed_63 : decode cX7_bleed 63 = .ok (.iload_n 3, 1) := by decide +kernel
theorem dX7_bleed_64 : decode cX7_bleed 64 = .ok (.bipush 6, 2) := by decide +kernel
theorem dX7_bleed_66 : decode cX7_bleed 66 = .ok (.irem, 1) := by decide +kernel
theorem dX7_bleed_67 : decode cX7_bleed 67 = .ok (.invokevirtual 130, 3) := by decide +kernel
theorem dX7_bleed_70 : decode cX7_bleed 70 = .ok (.ifCond .eq 34, 3) := by decide +kernel
theorem dX7_bleed_73 : decode cX7_bleed 73 = .ok (.aload_n 0, 1) := by decide +kernel
theorem dX7_bleed_74 : decode cX7_bleed 74 = .ok (.iload_n 3, 1) := by decide +kernel
theorem dX7_bleed_75 : decode cX7_bleed 75 = .ok (.bipush 6, 2) := by decide +kernel
theorem dX7_bleed_77 : decode cX7_bleed 77 = .ok (.idiv, 1) := by decide +kernel
theorem dX7_bleed_78 : decode cX7_bleed 78 = .ok (.iload_n 3, 1) := by decide +kernel
theorem dX7_bleed_79 : decode cX7_bleed 79 = .ok (.bipush 6, 2) := by decide +kernel
theorem dX7_bleed_81 : decode cX7_bleed 81 = .ok (.irem, 1) := by decide +kernel
theorem dX7_bleed_82 : decode cX7_bleed 82 = .ok (.iconst 0, 1) := by decide +kernel
theorem dX7_bleed_83 : decode cX7_bleed 83 = .ok (.invokevirtual 117, 3) := by decide +kernel
theorem dX7_bleed_86 : decode cX7_bleed 86 = .ok (.iload_n 2, 1) := by decide +kernel
theorem dX7_bleed_87 : decode cX7_bleed 87 = .ok (.if_icmp .ge 17, 3) := by decide +kernel
theorem dX7_bleed_90 : decode cX7_bleed 90 = .ok (.aload_n 0, 1) := by decide +kernel
theorem dX7_bleed_91 : decode cX7_bleed 91 = .ok (.iload_n 3, 1) := by decide +kernel
theorem dX7_bleed_92 : decode cX7_bleed 92 = .ok (.bipush 6, 2) := by decide +kernel
theorem dX7_bleed_94 : decode cX7_bleed 94 = .ok (.idiv, 1) := by decide +kernel
theorem dX7_bleed_95 : decode cX7_bleed 95 = .ok (.iload_n 3, 1) := by decide +kernel
theorem dX7_bleed_96 : decode cX7_bleed 96 = .ok (.bipush 6, 2) := by decide +kernel
theorem dX7_bleed_98 : decode cX7_bleed 98 = .ok (.irem, 1) := by decide +kernel
theorem dX7_bleed_99 : decode cX7_bleed 99 = .ok (.iconst 0, 1) := by decide +kernel
theorem dX7_bleed_100 : decode cX7_bleed 100 = .ok (.invokevirtual 117, 3) := by decide +kernel
theorem dX7_bleed_103 : decode cX7_bleed 103 = .ok (.istore_n 2, 1) := by decide +kernel
theorem dX7_bleed_104 : decode cX7_bleed 104 = .ok (.iinc 3 1, 3) := by decide +kernel
theorem dX7_bleed_107 : decode cX7_bleed 107 = .ok (.goto (-60), 3) := by decide +kernel
theorem dX7_bleed_110 : decode cX7_bleed 110 = .ok (.iconst 0, 1) := by decide +kernel
theorem dX7_bleed_111 : decode cX7_bleed 111 = .ok (.istore_n 3, 1) := by decide +kernel
theorem dX7_bleed_112 : decode cX7_bleed 112 = .ok (.iload_n 3, 1) := by decide +kernel
theorem dX7_bleed_113 : decode cX7_bleed 113 = .ok (.aload_n 0, 1) := by decide +kernel
theorem dX7_bleed_114 : decode cX7_bleed 114 = .ok (.getfield 49, 3) := by decide +kernel
theorem dX7_bleed_117 : decode cX7_bleed 117 = .ok (.if_icmp .ge 116, 3) := by decide +kernel
theorem dX7_bleed_120 : decode cX7_bleed 120 = .ok (.aload_n 0, 1) := by decide +kernel
theorem dX7_bleed_121 : decode cX7_bleed 121 = .ok (.getfield 38, 3) := by decide +kernel
theorem dX7_bleed_124 : decode cX7_bleed 124 = .ok (.iload_n 3, 1) := by decide +kernel
theorem dX7_bleed_125 : decode cX7_bleed 125 = .ok (.iconst 0, 1) := by decide +kernel
theorem dX7_bleed_126 : decode cX7_bleed 126 = .ok (.iastore, 1) := by decide +kernel
theorem dX7_bleed_127 : decode cX7_bleed 127 = .ok (.iconst 0, 1) := by decide +kernel
theorem dX7_bleed_128 : decode cX7_bleed 128 = .ok (.istore 4, 2) := by decide +kernel
theorem dX7_bleed_130 : decode cX7_bleed 130 = .ok (.iload 4, 2) := by decide +kernel
theorem dX7_bleed_132 : decode cX7_bleed 132 = .ok (.bipush 6, 2) := by decide +kernel
theorem dX7_bleed_134 : decode cX7_bleed 134 = .ok (.if_icmp .ge 93, 3) := by decide +kernel
theorem dX7_bleed_137 : decode cX7_bleed 137 = .ok (.iload_n 1, 1) := by decide +kernel
theorem dX7_bleed_138 : decode cX7_bleed 138 = .ok (.ifCond .eq 89, 3) := by decide +kernel
theorem dX7_bleed_141 : decode cX7_bleed 141 = .ok (.iload 4, 2) := by decide +kernel
theorem dX7_bleed_143 : decode cX7_bleed 143 = .ok (.aload_n 0, 1) := by decide +kernel
theorem dX7_bleed_144 : decode cX7_bleed 144 = .ok (.getfield 253, 3) := by decide +kernel
theorem dX7_bleed_147 : decode cX7_bleed 147 = .ok (.iadd, 1) := by decide +kernel
theorem dX7_bleed_148 : decode cX7_bleed 148 = .ok (.iconst 2, 1) := by decide +kernel
theorem dX7_bleed_149 : decode cX7_bleed 149 = .ok (.irem, 1) := by decide +kernel
theorem dX7_bleed_150 : decode cX7_bleed 150 = .ok (.ifCond .ne 7, 3) := by decide +kernel
theorem dX7_bleed_153 : decode cX7_bleed 153 = .ok (.iconst 1, 1) := by decide +kernel
theorem dX7_bleed_154 : decode cX7_bleed 154 = .ok (.goto 4, 3) := by decide +kernel
theorem dX7_bleed_157 : decode cX7_bleed 157 = .ok (.iconst 0, 1) := by decide +kernel
theorem dX7_bleed_158 : decode cX7_bleed 158 = .ok (.istore 5, 2) := by decide +kernel
theorem dX7_bleed_160 : decode cX7_bleed 160 = .ok (.iload 5, 2) := by decide +kernel
theorem dX7_bleed_162 : decode cX7_bleed 162 = .ok (.ifCond .eq 59, 3) := by decide +kernel
theorem dX7_bleed_165 : decode cX7_bleed 165 = .ok (.aload_n 0, 1) := by decide +kernel
theorem dX7_bleed_166 : decode cX7_bleed 166 = .ok (.iload_n 3, 1) := by decide +kernel
theorem dX7_bleed_167 : decode cX7_bleed 167 = .ok (.iload 4, 2) := by decide +kernel
theorem dX7_bleed_169 : decode cX7_bleed 169 = .ok (.invokevirtual 130, 3) := by decide +kernel
theorem dX7_bleed_172 : decode cX7_bleed 172 = .ok (.ifCond .eq 49, 3) := by decide +kernel
theorem dX7_bleed_175 : decode cX7_bleed 175 = .ok (.aload_n 0, 1) := by decide +kernel
theorem dX7_bleed_176 : decode cX7_bleed 176 = .ok (.iload_n 3, 1) := by decide +kernel
theorem dX7_bleed_177 : decode cX7_bleed 177 = .ok (.iload 4, 2) := by decide +kernel
theorem dX7_bleed_179 : decode cX7_bleed 179 = .ok (.iconst 0, 1) := by decide +kernel
theorem dX7_bleed_180 : decode cX7_bleed 180 = .ok (.invokevirtual 117, 3) := by decide +kernel
theorem dX7_bleed_183 : decode cX7_bleed 183 = .ok (.sipush 3300, 3) := by decide +kernel
theorem dX7_bleed_186 : decode cX7_bleed 186 = .ok (.if_icmp .le 35, 3) := by decide +kernel
theorem dX7_bleed_189 : decode cX7_bleed 189 = .ok (.aload_n 0, 1) := by decide +kernel
theorem dX7_bleed_190 : decode cX7_bleed 190 = .ok (.iload_n 3, 1) := by decide +kernel
theorem dX7_bleed_191 : decode cX7_bleed 191 = .ok (.iload 4, 2) := by decide +kernel
theorem dX7_bleed_193 : decode cX7_bleed 193 = .ok (.iconst 0, 1) := by decide +kernel
theorem dX7_bleed_194 : decode cX7_bleed 194 = .ok (.invokevirtual 117, 3) := by decide +kernel
theorem dX7_bleed_197 : decode cX7_bleed 197 = .ok (.iload_n 2, 1) := by decide +kernel
theorem dX7_bleed_198 : decode cX7_bleed 198 = .ok (.bipush 8, 2) := by decide +kernel
theorem dX7_bleed_200 : decode cX7_bleed 200 = .ok (.iadd, 1) := by decide +kernel
theorem dX7_bleed_201 : decode cX7_bleed 201 = .ok (.if_icmp .le 20, 3) := by decide +kernel
theorem dX7_bleed_204 : decode cX7_bleed 204 = .ok (.aload_n 0, 1) := by decide +kernel
theorem dX7_bleed_205 : decode cX7_bleed 205 = .ok (.getfield 38, 3) := by decide +kernel
theorem dX7_bleed_208 : decode cX7_bleed 208 = .ok (.iload_n 3, 1) := by decide +kernel
theorem dX7_bleed_209 : decode cX7_bleed 209 = .ok (.aload_n 0, 1) := by decide +kernel
theorem dX7_bleed_210 : decode cX7_bleed 210 = .ok (.getfield 38, 3) := by decide +kernel
theorem dX7_bleed_213 : decode cX7_bleed 213 = .ok (.iload_n 3, 1) := by decide +kernel
theorem dX7_bleed_214 : decode cX7_bleed 214 = .ok (.iaload, 1) := by decide +kernel
theorem dX7_bleed_215 : decode cX7_bleed 215 = .ok (.iconst 1, 1) := by decide +kernel
theorem dX7_bleed_216 : decode cX7_bleed 216 = .ok (.iload 4, 2) := by decide +kernel
theorem dX7_bleed_218 : decode cX7_bleed 218 = .ok (.ishl, 1) := by decide +kernel
theorem dX7_bleed_219 : decode cX7_bleed 219 = .ok (.ior, 1) := by decide +kernel
theorem dX7_bleed_220 : decode cX7_bleed 220 = .ok (.iastore, 1) := by decide +kernel
theorem dX7_bleed_221 : decode cX7_bleed 221 = .ok (.iinc 4 1, 3) := by decide +kernel
theorem dX7_bleed_224 : decode cX7_bleed 224 = .ok (.goto (-94), 3) := by decide +kernel
theorem dX7_bleed_227 : decode cX7_bleed 227 = .ok (.iinc 3 1, 3) := by decide +kernel
theorem dX7_bleed_230 : decode cX7_bleed 230 = .ok (.goto (-118), 3) := by decide +kernel
theorem dX7_bleed_233 : decode cX7_bleed 233 = .ok (.return_, 1) := by decide +kernel
theorem dX7_putBlock_0 : decode cX7_putBlock 0 = .ok (.iconst 0, 1) := by decide +kernel
theorem dX7_putBlock_1 : decode cX7_putBlock 1 = .ok (.istore 5, 2) := by decide +kernel
theorem dX7_putBlock_3 : decode cX7_putBlock 3 = .ok (.iload 5, 2) := by decide +kernel
theorem dX7_putBlock_5 : decode cX7_putBlock 5 = .ok (.iload_n 2, 1) := by decide +kernel
theorem dX7_putBlock_6 : decode cX7_putBlock 6 = .ok (.if_icmp .ge 30, 3) := by decide +kernel
theorem dX7_putBlock_9 : decode cX7_putBlock 9 = .ok (.aload_n 0, 1) := by decide +kernel
theorem dX7_putBlock_10 : decode cX7_putBlock 10 = .ok (.getfield 13, 3) := by decide +kernel
theorem dX7_putBlock_13 : decode cX7_putBlock 13 = .ok (.iload_n 1, 1) := by decide +kernel
theorem dX7_putBlock_14 : decode cX7_putBlock 14 = .ok (.iload 5, 2) := by decide +kernel
theorem dX7_putBlock_16 : decode cX7_putBlock 16 = .ok (.iadd, 1) := by decide +kernel
theorem dX7_putBlock_17 : decode cX7_putBlock 17 = .ok (.lload_n 3, 1) := by decide +kernel
theorem dX7_putBlock_18 : decode cX7_putBlock 18 = .ok (.bipush 8, 2) := by decide +kernel
theorem dX7_putBlock_20 : decode cX7_putBlock 20 = .ok (.iload 5, 2) := by decide +kernel
theorem dX7_putBlock_22 : decode cX7_putBlock 22 = .ok (.imul, 1) := by decide +kernel
theorem dX7_putBlock_23 : decode cX7_putBlock 23 = .ok (.lshr, 1) := by decide +kernel
theorem dX7_putBlock_24 : decode cX7_putBlock 24 = .ok (.l2i, 1) := by decide +kernel
theorem dX7_putBlock_25 : decode cX7_putBlock 25 = .ok (.sipush 255, 3) := by decide +kernel
theorem dX7_putBlock_28 : decode cX7_putBlock 28 = .ok (.iand, 1) := by decide +kernel
theorem dX7_putBlock_29 : decode cX7_putBlock 29 = .ok (.iastore, 1) := by decide +kernel
theorem dX7_putBlock_30 : decode cX7_putBlock 30 = .ok (.iinc 5 1, 3) := by decide +kernel
theorem dX7_putBlock_33 : decode cX7_putBlock 33 = .ok (.goto (-30), 3) := by decide +kernel
theorem dX7_putBlock_36 : decode cX7_putBlock 36 = .ok (.return_, 1) := by decide +kernel
set_option maxRecDepth 20000 in
theorem ggX7_write_X7_putBlock : GoodIn wsX7_write wsX7_putBlock := goodIn_r _ [15, 6, 19, 20, 21, 22, 23, 24, 25, 26, 27, 28, 29, 30, 31, 32, 33, 34, 35, 36, 37, 38, 39, 40, 41, 42, 43, 44, 45, 46, 47, 48, 49, 50] (by decide +kernel) (by decide +kernel)
set_option maxRecDepth 20000 in
theorem gX7_write_X7_putBlock : GoodIn wsX7_write (wsV RX7 259 RX7 yX7_putBlock wsX7_putBlock) := goodIn_app (goodIn_of _ (by decide +kernel)) ggX7_write_X7_putBlock
set_option maxRecDepth 20000 in
theorem ggX7_write_X7_checked : GoodIn wsX7_write wsX7_checked := goodIn_r _ [18] (by decide +kernel) (by decide +kernel)
set_option maxRecDepth 20000 in
theorem gX7_write_X7_checked : GoodIn wsX7_write (va_wsS RX7 77 yX7_checked wsX7_checked) := goodIn_app (goodIn_of _ (by decide +kernel)) ggX7_write_X7_checked
theorem dX7_write_0 : decode cX7_write 0 = .ok (.aload_n 0, 1) := by decide +kernel
theorem dX7_write_1 : decode cX7_write 1 = .ok (.iconst 0, 1) := by decide +kernel
theorem dX7_write_2 : decode cX7_write 2 = .ok (.iconst 4, 1) := by decide +kernel
theorem dX7_write_3 : decode cX7_write 3 = .ok (.aload_n 0, 1) := by decide +kernel
theorem dX7_write_4 : decode cX7_write 4 = .ok (.getfield 256, 3) := by decide +kernel
theorem dX7_write_7 : decode cX7_write 7 = .ok (.i2l, 1) := by decide +kernel
theorem dX7_write_8 : decode cX7_write 8 = .ok (.invokevirtual 259, 3) := by decide +kernel
theorem dX7_write_11 : decode cX7_write 11 = .ok (.aload_n 0, 1) := by decide +kernel
theorem dX7_write_12 : decode cX7_write 12 = .ok (.iconst 4, 1) := by decide +kernel
theorem dX7_write_13 : decode cX7_write 13 = .ok (.iconst 4, 1) := by decide +kernel
theorem dX7_write_14 : decode cX7_write 14 = .ok (.aload_n 0, 1) := by decide +kernel
theorem dX7_write_15 : decode cX7_write 15 = .ok (.getfield 253, 3) := by decide +kernel
theorem dX7_write_18 : decode cX7_write 18 = .ok (.i2l, 1) := by decide +kernel
theorem dX7_write_19 : decode cX7_write 19 = .ok (.invokevirtual 259, 3) := by decide +kernel
theorem dX7_write_22 : decode cX7_write 22 = .ok (.aload_n 0, 1) := by decide +kernel
theorem dX7_write_23 : decode cX7_write 23 = .ok (.bipush 8, 2) := by decide +kernel
theorem dX7_write_25 : decode cX7_write 25 = .ok (.bipush 8, 2) := by decide +kernel
theorem dX7_write_27 : decode cX7_write 27 = .ok (.aload_n 0, 1) := by decide +kernel
theorem dX7_write_28 : decode cX7_write 28 = .ok (.getfield 112, 3) := by decide +kernel
theorem dX7_write_31 : decode cX7_write 31 = .ok (.invokevirtual 259, 3) := by decide +kernel
theorem dX7_write_34 : decode cX7_write 34 = .ok (.aload_n 0, 1) := by decide +kernel
theorem dX7_write_35 : decode cX7_write 35 = .ok (.bipush 16, 2) := by decide +kernel
theorem dX7_write_37 : decode cX7_write 37 = .ok (.iconst 2, 1) := by decide +kernel
theorem dX7_write_38 : decode cX7_write 38 = .ok (.aload_n 0, 1) := by decide +kernel
theorem dX7_write_39 : decode cX7_write 39 = .ok (.getfield 224, 3) := by decide +kernel
theorem dX7_write_42 : decode cX7_write 42 = .ok (.i2l, 1) := by decide +kernel
theorem dX7_write_43 : decode cX7_write 43 = .ok (.invokevirtual 259, 3) := by decide +kernel
theorem dX7_write_46 : decode cX7_write 46 = .ok (.aload_n 0, 1) := by decide +kernel
theorem dX7_write_47 : decode cX7_write 47 = .ok (.bipush 18, 2) := by decide +kernel
theorem dX7_write_49 : decode cX7_write 49 = .ok (.iconst 2, 1) := by decide +kernel
theorem dX7_write_50 : decode cX7_write 50 = .ok (.aload_n 0, 1) := by decide +kernel
theorem dX7_write_51 : decode cX7_write 51 = .ok (.getfield 234, 3) := by decide +kernel
theorem dX7_write_54 : decode cX7_write 54 = .ok (.i2l, 1) := by decide +kernel
theorem dX7_write_55 : decode cX7_write 55 = .ok (.invokevirtual 259, 3) := by decide +kernel
theorem dX7_write_58 : decode cX7_write 58 = .ok (.aload_n 0, 1) := by decide +kernel
theorem dX7_write_59 : decode cX7_write 59 = .ok (.bipush 20, 2) := by decide +kernel
theorem dX7_write_61 : decode cX7_write 61 = .ok (.bipush 10, 2) := by decide +kernel
theorem dX7_write_63 : decode cX7_write 63 = .ok (.lconst 0, 1) := by decide +kernel
theorem dX7_write_64 : decode cX7_write 64 = .ok (.invokevirtual 259, 3) := by decide +kernel
theorem dX7_write_67 : decode cX7_write 67 = .ok (.iconst 0, 1) := by decide +kernel
theorem dX7_write_68 : decode cX7_write 68 = .ok (.istore_n 1, 1) := by decide +kernel
theorem dX7_write_69 : decode cX7_write 69 = .ok (.iconst 0, 1) := by decide +kernel
theorem dX7_write_70 : decode cX7_write 70 = .ok (.istore_n 2, 1) := by decide +kernel
theorem dX7_write_71 : decode cX7_write 71 = .ok (.iload_n 2, 1) := by decide +kernel
theorem dX7_write_72 : decode cX7_write 72 = .ok (.bipush 30, 2) := by decide +kernel
theorem dX7_write_74 : decode cX7_write 74 = .ok (.if_icmp .ge 20, 3) := by decide +kernel
theorem dX7_write_77 : decode cX7_write 77 = .ok (.iload_n 1, 1) := by decide +kernel
theorem dX7_write_78 : decode cX7_write 78 = .ok (.aload_n 0, 1) := by decide +kernel
theorem dX7_write_79 : decode cX7_write 79 = .ok (.getfield 13, 3) := by decide +kernel
theorem dX7_write_82 : decode cX7_write 82 = .ok (.iload_n 2, 1) := by decide +kernel
theorem dX7_write_83 : decode cX7_write 83 = .ok (.iaload, 1) := by decide +kernel
theorem dX7_write_84 : decode cX7_write 84 = .ok (.invokestatic 77, 3) := by decide +kernel
theorem dX7_write_87 : decode cX7_write 87 = .ok (.istore_n 1, 1) := by decide +kernel
theorem dX7_write_88 : decode cX7_write 88 = .ok (.iinc 2 1, 3) := by decide +kernel
theorem dX7_write_91 : decode cX7_write 91 = .ok (.goto (-20), 3) := by decide +kernel
theorem dX7_write_94 : decode cX7_write 94 = .ok (.aload_n 0, 1) := by decide +kernel
theorem dX7_write_95 : decode cX7_write 95 = .ok (.bipush 30, 2) := by decide +kernel
theorem dX7_write_97 : decode cX7_write 97 = .ok (.iconst 2, 1) := by decide +kernel
theorem dX7_write_98 : decode cX7_write 98 = .ok (.iload_n 1, 1) := by decide +kernel
theorem dX7_write_99 : decode cX7_write 99 = .ok (.i2l, 1) := by decide +kernel
theorem dX7_write_100 : decode cX7_write 100 = .ok (.invokevirtual 259, 3) := by decide +kernel
theorem dX7_write_103 : decode cX7_write 103 = .ok (.bipush 32, 2) := by decide +kernel
theorem dX7_write_105 : decode cX7_write 105 = .ok (.aload_n 0, 1) := by decide +kernel
theorem dX7_write_106 : decode cX7_write 106 = .ok (.getfield 256, 3) := by decide +kernel
theorem dX7_write_109 : decode cX7_write 109 = .ok (.iconst 1, 1) := by decide +kernel
theorem dX7_write_110 : decode cX7_write 110 = .ok (.isub, 1) := by decide +kernel
theorem dX7_write_111 : decode cX7_write 111 = .ok (.aload_n 0, 1) := by decide +kernel
theorem dX7_write_112 : decode cX7_write 112 = .ok (.getfield 52, 3) := by decide +kernel
theorem dX7_write_115 : decode cX7_write 115 = .ok (.irem, 1) := by decide +kernel
theorem dX7_write_116 : decode cX7_write 116 = .ok (.imul, 1) := by decide +kernel
theorem dX7_write_117 : decode cX7_write 117 = .ok (.istore_n 2, 1) := by decide +kernel
theorem dX7_write_118 : decode cX7_write 118 = .ok (.iconst 0, 1) := by decide +kernel
theorem dX7_write_119 : decode cX7_write 119 = .ok (.istore_n 3, 1) := by decide +kernel
theorem dX7_write_120 : decode cX7_write 120 = .ok (.iload_n 3, 1) := by decide +kernel
theorem dX7_write_121 : decode cX7_write 121 = .ok (.aload_n 0, 1) := by decide +kernel
theorem dX7_write_122 : decode cX7_write 122 = .ok (.getfield 41, 3) := by decide +kernel
theorem dX7_write_125 : decode cX7_write 125 = .ok (.if_icmp .ge 23, 3) := by decide +kernel
theorem dX7_write_128 : decode cX7_write 128 = .ok (.aload_n 0, 1) := by decide +kernel
theorem dX7_write_129 : decode cX7_write 129 = .ok (.getfield 7, 3) := by decide +kernel
theorem dX7_write_132 : decode cX7_write 132 = .ok (.iload_n 2, 1) := by decide +kernel
theorem dX7_write_133 : decode cX7_write 133 = .ok (.iload_n 3, 1) := by decide +kernel
theorem dX7_write_134 : decode cX7_write 134 = .ok (.iadd, 1) := by decide +kernel
theorem dX7_write_135 : decode cX7_write 135 = .ok (.aload_n 0, 1) := by decide +kernel
theorem dX7_write_136 : decode cX7_write 136 = .ok (.getfield 13, 3) := by decide +kernel
theorem dX7_write_139 : decode cX7_write 139 = .ok (.iload_n 3, 1) := by decide +kernel
theorem dX7_write_140 : decode cX7_write 140 = .ok (.iaload, 1) := by decide +kernel
theorem dX7_write_141 : decode cX7_write 141 = .ok (.iastore, 1) := by decide +kernel
theorem dX7_write_142 : decode cX7_write 142 = .ok (.iinc 3 1, 3) := by decide +kernel
theorem dX7_write_145 : decode cX7_write 145 = .ok (.goto (-25), 3) := by decide +kernel
theorem dX7_write_148 : decode cX7_write 148 = .ok (.aload_n 0, 1) := by decide +kernel
theorem dX7_write_149 : decode cX7_write 149 = .ok (.dup, 1) := by decide +kernel
theorem dX7_write_150 : decode cX7_write 150 = .ok (.getfield 256, 3) := by decide +kernel
theorem dX7_write_153 : decode cX7_write 153 = .ok (.iconst 1, 1) := by decide +kernel
theorem dX7_write_154 : decode cX7_write 154 = .ok (.iadd, 1) := by decide +kernel
theorem dX7_write_155 : decode cX7_write 155 = .ok (.putfield 256, 3) := by decide +kernel
theorem dX7_write_158 : decode cX7_write 158 = .ok (.aload_n 0, 1) := by decide +kernel
theorem dX7_write_159 : decode cX7_write 159 = .ok (.aload_n 0, 1) := by decide +kernel
theorem dX7_write_160 : decode cX7_write 160 = .ok (.getfield 41, 3) := by decide +kernel
theorem dX7_write_163 : decode cX7_write 163 = .ok (.bipush 32, 2) := by decide +kernel
theorem dX7_write_165 : decode cX7_write 165 = .ok (.if_icmp .ge 7, 3) := by decide +kernel
theorem dX7_write_168 : decode cX7_write 168 = .ok (.iconst 1, 1) := by decide +kernel
theorem dX7_write_169 : decode cX7_write 169 = .ok (.goto 4, 3) := by decide +kernel
theorem dX7_write_172 : decode cX7_write 172 = .ok (.iconst 0, 1) := by decide +kernel
theorem dX7_write_173 : decode cX7_write 173 = .ok (.putfield 85, 3) := by decide +kernel
theorem dX7_write_176 : decode cX7_write 176 = .ok (.return_, 1) := by decide +kernel
set_option maxRecDepth 20000 in
theorem ggX7_tick_X7_countCharge : GoodIn wsX7_tick wsX7_countCharge := goodIn_r _ [13, 14, 15, 16, 17, 18, 19, 20, 21, 22, 23, 4, 24, 25, 12, 26, 27, 28, 29, 30, 31, 32, 33, 34, 35, 36, 37, 38, 39, 40, 5, 41, 42, 43, 44, 45, 46, 47, 48, 49, 50, 51, 52, 53, 54, 55, 56, 57, 58, 59, 60, 61, 62, 63, 64, 158, 159, 160, 161, 162, 163, 164, 165, 166, 167, 168, 169, 170, 171, 172, 173, 174, 175, 176, 177, 178, 179, 180, 181, 182, 183, 184, 185, 186, 187, 188, 189] (by decide +kernel) (by decide +kernel)
set_option maxRecDepth 20000 in
theorem gX7_tick_X7_countCharge : GoodIn wsX7_tick (wsV RX7 263 RX7 yX7_countCharge wsX7_countCharge) := goodIn_app (goodIn_of _ (by decide +kernel)) ggX7_tick_X7_countCharge
set_option maxRecDepth 20000 in
theorem ggX7_tick_X7_allow : GoodIn wsX7_tick wsX7_allow := goodIn_r _ [68, 69, 51, 70, 71, 72, 73, 74, 21, 75, 16, 76, 77, 14, 15, 78, 79, 80, 81, 12, 82, 83, 4, 84, 85, 86, 87, 88, 89, 90, 91, 92, 93, 94, 23, 95, 96, 97, 98, 158, 159, 160, 161, 162, 163, 164, 165, 166, 167, 168, 169, 170, 171, 172, 173, 174, 175, 176, 177, 178, 179, 180, 181, 182, 183, 184, 185, 186, 187, 188, 189] (by decide +kernel) (by decide +kernel)
set_option maxRecDepth 20000 in
theorem gX7_tick_X7_allow : GoodIn wsX7_tick (wsV RX7 266 RX7 yX7_allow wsX7_allow) := goodIn_app (goodIn_of _ (by decide +kernel)) ggX7_tick_X7_allow
set_option maxRecDepth 20000 in
theorem ggX7_tick_X7_causes : GoodIn wsX7_tick wsX7_causes := goodIn_r _ [102, 103, 104, 105, 106, 107, 12, 108, 109, 110, 23, 18, 76, 111, 112, 78, 4, 79, 80, 81, 82, 83, 84, 85, 86, 87, 36, 37, 38, 39, 40, 5, 31, 32, 33, 34, 35, 41, 42, 43, 44, 45, 46, 47, 48, 49, 50, 51, 113, 114, 115, 116, 6, 117, 158, 159, 160, 161, 162, 163, 164, 165, 166, 167, 168, 169, 170, 171, 172, 173, 174, 175, 176, 177, 178, 179, 180, 181, 182, 183, 184, 185, 186, 187, 188, 189] (by decide +kernel) (by decide +kernel)
set_option maxRecDepth 20000 in
theorem gX7_tick_X7_causes : GoodIn wsX7_tick (wsV RX7 269 RX7 yX7_causes wsX7_causes) := goodIn_app (goodIn_of _ (by decide +kernel)) ggX7_tick_X7_causes
set_option maxRecDepth 20000 in
theorem ggX7_tick_X7_contactors : GoodIn wsX7_tick wsX7_contactors := goodIn_r _ [121, 122, 123, 8, 124, 125, 126, 71, 127, 128, 129, 12, 130, 117, 131, 132, 133, 134, 27, 28, 29, 30, 4, 31, 32, 33, 34, 35, 36, 37, 38, 39, 40, 5, 41, 42, 43, 44, 45, 46, 47, 48, 49, 50, 51, 52, 53, 54, 55, 113, 114, 115, 116, 6, 158, 159, 160, 161, 162, 163, 164, 165, 166, 167, 168, 169, 170, 171, 172, 173, 174, 175, 176, 177, 178, 179, 180, 181, 182, 183, 184, 185, 186, 187, 188, 189] (by decide +kernel) (by decide +kernel)
set_option maxRecDepth 20000 in
theorem gX7_tick_X7_contactors : GoodIn wsX7_tick (wsV RX7 272 RX7 yX7_contactors wsX7_contactors) := goodIn_app (goodIn_of _ (by decide +kernel)) ggX7_tick_X7_contactors
set_option maxRecDepth 20000 in
theorem ggX7_tick_X7_bleed : GoodIn wsX7_tick wsX7_bleed := goodIn_r _ [138, 8, 18, 139, 140, 4, 141, 3, 127, 128, 129, 12, 130, 117, 24, 25, 26, 31, 32, 33, 34, 35, 36, 37, 38, 39, 40, 5, 41, 42, 43, 44, 45, 46, 47, 48, 49, 50, 51, 158, 159, 160, 161, 162, 163, 164, 165, 166, 167, 168, 169, 170, 171, 172, 173, 174, 175, 176, 177, 178, 179, 180, 181, 182, 183, 184, 185, 186, 187, 188, 189] (by decide +kernel) (by decide +kernel)
set_option maxRecDepth 20000 in
theorem gX7_tick_X7_bleed : GoodIn wsX7_tick (wsV RX7 275 RX7 yX7_bleed wsX7_bleed) := goodIn_app (goodIn_of _ (by decide +kernel)) ggX7_tick_X7_bleed
set_option maxRecDepth 20000 in
theorem ggX7_tick_X7_write : GoodIn wsX7_tick wsX7_write := goodIn_r _ [145, 146, 3, 16, 117, 8, 147, 148, 149, 150, 1, 151, 152, 153, 12, 154, 155, 156, 157, 158, 159, 160, 161, 162, 163, 164, 165, 166, 167, 168, 169, 170, 171, 172, 173, 174, 175, 176, 177, 178, 179, 180, 181, 182, 183, 184, 185, 186, 187, 188, 189] (by decide +kernel) (by decide +kernel)
set_option maxRecDepth 20000 in
theorem gX7_tick_X7_write : GoodIn wsX7_tick (wsV RX7 278 RX7 yX7_write wsX7_write) := goodIn_app (goodIn_of _ (by decide +kernel)) ggX7_tick_X7_write
theorem dX7_tick_0 : decode cX7_tick 0 = .ok (.aload_n 0, 1) := by decide +kernel
theorem dX7_tick_1 : decode cX7_tick 1 = .ok (.iload_n 1, 1) := by decide +kernel
theorem dX7_tick_2 : decode cX7_tick 2 = .ok (.iconst 1, 1) := by decide +kernel
theorem dX7_tick_3 : decode cX7_tick 3 = .ok (.if_icmp .lt 9, 3) := by decide +kernel
theorem dX7_tick_6 : decode cX7_tick 6 = .ok (.iload_n 1, 1) := by decide +kernel
theorem dX7_tick_7 : decode cX7_tick 7 = .ok (.bipush 100, 2) := by decide +kernel
theorem dX7_tick_9 : decode cX7_tick 9 = .ok (.if_icmp .le 7, 3) := by decide +kernel
theorem dX7_tick_12 : decode cX7_tick 12 = .ok (.iconst 1, 1) := by decide +kernel
theorem dX7_tick_13 : decode cX7_tick 13 = .ok (.goto 15, 3) := by decide +kernel
theorem dX7_tick_16 : decode cX7_tick 16 = .ok (.aload_n 0, 1) := by decide +kernel
theorem dX7_tick_17 : decode cX7_tick 17 = .ok (.getfield 85, 3) := by decide +kernel
theorem dX7_tick_20 : decode cX7_tick 20 = .ok (.ifCond .eq 7, 3) := by decide +kernel
theorem dX7_tick_23 : decode cX7_tick 23 = .ok (.iconst 2, 1) := by decide +kernel
theorem dX7_tick_24 : decode cX7_tick 24 = .ok (.goto 4, 3) := by decide +kernel
theorem dX7_tick_27 : decode cX7_tick 27 = .ok (.iconst 0, 1) := by decide +kernel
theorem dX7_tick_28 : decode cX7_tick 28 = .ok (.putfield 70, 3) := by decide +kernel
theorem dX7_tick_31 : decode cX7_tick 31 = .ok (.iconst 0, 1) := by decide +kernel
theorem dX7_tick_32 : decode cX7_tick 32 = .ok (.istore_n 2, 1) := by decide +kernel
theorem dX7_tick_33 : decode cX7_tick 33 = .ok (.iload_n 2, 1) := by decide +kernel
theorem dX7_tick_34 : decode cX7_tick 34 = .ok (.iload_n 1, 1) := by decide +kernel
theorem dX7_tick_35 : decode cX7_tick 35 = .ok (.if_icmp .ge 129, 3) := by decide +kernel
theorem dX7_tick_38 : decode cX7_tick 38 = .ok (.aload_n 0, 1) := by decide +kernel
theorem dX7_tick_39 : decode cX7_tick 39 = .ok (.getfield 70, 3) := by decide +kernel
theorem dX7_tick_42 : decode cX7_tick 42 = .ok (.ifCond .ne 122, 3) := by decide +kernel
theorem dX7_tick_45 : decode cX7_tick 45 = .ok (.aload_n 0, 1) := by decide +kernel
theorem dX7_tick_46 : decode cX7_tick 46 = .ok (.getfield 85, 3) := by decide +kernel
theorem dX7_tick_49 : decode cX7_tick 49 = .ok (.ifCond .ne 115, 3) := by decide +kernel
theorem dX7_tick_52 : decode cX7_tick 52 = .ok (.aload_n 0, 1) := by decide +kernel
theorem dX7_tick_53 : decode cX7_tick 53 = .ok (.dup, 1) := by decide +kernel
theorem dX7_tick_54 : decode cX7_tick 54 = .ok (.getfield 253, 3) := by decide +kernel
theorem dX7_tick_57 : decode cX7_tick 57 = .ok (.iconst 1, 1) := by decide +kernel
theorem dX7_tick_58 : decode cX7_tick 58 = .ok (.iadd, 1) := by decide +kernel
theorem dX7_tick_59 : decode cX7_tick 59 = .ok (.putfield 253, 3) := by decide +kernel
theorem dX7_tick_62 : decode cX7_tick 62 = .ok (.iconst 0, 1) := by decide +kernel
theorem dX7_tick_63 : decode cX7_tick 63 = .ok (.istore_n 3, 1) := by decide +kernel
theorem dX7_tick_64 : decode cX7_tick 64 = .ok (.iload_n 3, 1) := by decide +kernel
theorem dX7_tick_65 : decode cX7_tick 65 = .ok (.aload_n 0, 1) := by decide +kernel
theorem dX7_tick_66 : decode cX7_tick 66 = .ok (.getfield 49, 3) := by decide +kernel
theorem dX7_tick_69 : decode cX7_tick 69 = .ok (.if_icmp .ge 41, 3) := by decide +kernel
theorem dX7_tick_72 : decode cX7_tick 72 = .ok (.aload_n 0, 1) := by decide +kernel
theorem dX7_tick_73 : decode cX7_tick 73 = .ok (.getfield 32, 3) := by decide +kernel
theorem dX7_tick_76 : decode cX7_tick 76 = .ok (.iload_n 3, 1) := by decide +kernel
theorem dX7_tick_77 : decode cX7_tick 77 = .ok (.aload_n 0, 1) := by decide +kernel
theorem dX7_tick_78 : decode cX7_tick 78 = .ok (.getfield 32, 3) := by decide +kernel
theorem dX7_tick_81 : decode cX7_tick 81 = .ok (.iload_n 3, 1) := by decide +kernel
theorem dX7_tick_82 : decode cX7_tick 82 = .ok (.iaload, 1) := by decide +kernel
theorem dX7_tick_83 : decode cX7_tick 83 = .ok (.sipush 1000, 3) := by decide +kernel
theorem dX7_tick_86 : decode cX7_tick 86 = .ok (.if_icmp .ge 14, 3) := by decide +kernel
theorem dX7_tick_89 : decode cX7_tick 89 = .ok (.aload_n 0, 1) := by decide +kernel
theorem dX7_tick_90 : decode cX7_tick 90 = .ok (.getfield 32, 3) := by decide +kernel
theorem dX7_tick_93 : decode cX7_tick 93 = .ok (.iload_n 3, 1) := by decide +kernel
theorem dX7_tick_94 : decode cX7_tick 94 = .ok (.iaload, 1) := by decide +kernel
theorem dX7_tick_95 : decode cX7_tick 95 = .ok (.iconst 1, 1) := by decide +kernel
theorem dX7_tick_96 : decode cX7_tick 96 = .ok (.iadd, 1) := by decide +kernel
theorem dX7_tick_97 : decode cX7_tick 97 = .ok (.goto 6, 3) := by decide +kernel
theorem dX7_tick_100 : decode cX7_tick 100 = .ok (.sipush 1000, 3) := by decide +kernel
theorem dX7_tick_103 : decode cX7_tick 103 = .ok (.iastore, 1) := by decide +kernel
theorem dX7_tick_104 : decode cX7_tick 104 = .ok (.iinc 3 1, 3) := by decide +kernel
theorem dX7_tick_107 : decode cX7_tick 107 = .ok (.goto (-43), 3) := by decide +kernel
theorem dX7_tick_110 : decode cX7_tick 110 = .ok (.aload_n 0, 1) := by decide +kernel
theorem dX7_tick_111 : decode cX7_tick 111 = .ok (.iconst 0, 1) := by decide +kernel
theorem dX7_tick_112 : decode cX7_tick 112 = .ok (.putfield 221, 3) := by decide +kernel
theorem dX7_tick_115 : decode cX7_tick 115 = .ok (.aload_n 0, 1) := by decide +kernel
theorem dX7_tick_116 : decode cX7_tick 116 = .ok (.invokevirtual 263, 3) := by decide +kernel
theorem dX7_tick_119 : decode cX7_tick 119 = .ok (.aload_n 0, 1) := by decide +kernel
theorem dX7_tick_120 : decode cX7_tick 120 = .ok (.invokevirtual 266, 3) := by decide +kernel
theorem dX7_tick_123 : decode cX7_tick 123 = .ok (.aload_n 0, 1) := by decide +kernel
theorem dX7_tick_124 : decode cX7_tick 124 = .ok (.invokevirtual 269, 3) := by decide +kernel
theorem dX7_tick_127 : decode cX7_tick 127 = .ok (.aload_n 0, 1) := by decide +kernel
theorem dX7_tick_128 : decode cX7_tick 128 = .ok (.invokevirtual 272, 3) := by decide +kernel
theorem dX7_tick_131 : decode cX7_tick 131 = .ok (.aload_n 0, 1) := by decide +kernel
theorem dX7_tick_132 : decode cX7_tick 132 = .ok (.invokevirtual 275, 3) := by decide +kernel
theorem dX7_tick_135 : decode cX7_tick 135 = .ok (.aload_n 0, 1) := by decide +kernel
theorem dX7_tick_136 : decode cX7_tick 136 = .ok (.getfield 221, 3) := by decide +kernel
theorem dX7_tick_139 : decode cX7_tick 139 = .ok (.ifCond .ne 15, 3) := by decide +kernel
theorem dX7_tick_142 : decode cX7_tick 142 = .ok (.aload_n 0, 1) := by decide +kernel
theorem dX7_tick_143 : decode cX7_tick 143 = .ok (.getfield 253, 3) := by decide +kernel
theorem dX7_tick_146 : decode cX7_tick 146 = .ok (.aload_n 0, 1) := by decide +kernel
theorem dX7_tick_147 : decode cX7_tick 147 = .ok (.getfield 64, 3) := by decide +kernel
theorem dX7_tick_150 : decode cX7_tick 150 = .ok (.irem, 1) := by decide +kernel
theorem dX7_tick_151 : decode cX7_tick 151 = .ok (.ifCond .ne 7, 3) := by decide +kernel
theorem dX7_tick_154 : decode cX7_tick 154 = .ok (.aload_n 0, 1) := by decide +kernel
theorem dX7_tick_155 : decode cX7_tick 155 = .ok (.invokevirtual 278, 3) := by decide +kernel
theorem dX7_tick_158 : decode cX7_tick 158 = .ok (.iinc 2 1, 3) := by decide +kernel
theorem dX7_tick_161 : decode cX7_tick 161 = .ok (.goto (-128), 3) := by decide +kernel
theorem dX7_tick_164 : decode cX7_tick 164 = .ok (.aload_n 0, 1) := by decide +kernel
theorem dX7_tick_165 : decode cX7_tick 165 = .ok (.getfield 70, 3) := by decide +kernel
theorem dX7_tick_168 : decode cX7_tick 168 = .ok (.ifCond .le 7, 3) := by decide +kernel
theorem dX7_tick_171 : decode cX7_tick 171 = .ok (.iconst 0, 1) := by decide +kernel
theorem dX7_tick_172 : decode cX7_tick 172 = .ok (.goto 7, 3) := by decide +kernel
theorem dX7_tick_175 : decode cX7_tick 175 = .ok (.aload_n 0, 1) := by decide +kernel
theorem dX7_tick_176 : decode cX7_tick 176 = .ok (.getfield 234, 3) := by decide +kernel
theorem dX7_tick_179 : decode cX7_tick 179 = .ok (.ireturn, 1) := by decide +kernel
theorem dX7_reset_0 : decode cX7_reset 0 = .ok (.aload_n 0, 1) := by decide +kernel
theorem dX7_reset_1 : decode cX7_reset 1 = .ok (.iload_n 1, 1) := by decide +kernel
theorem dX7_reset_2 : decode cX7_reset 2 = .ok (.ifCond .lt 9, 3) := by decide +kernel
theorem dX7_reset_5 : decode cX7_reset 5 = .ok (.iload_n 1, 1) := by decide +kernel
theorem dX7_reset_6 : decode cX7_reset 6 = .ok (.bipush 8, 2) := by decide +kernel
theorem dX7_reset_8 : decode cX7_reset 8 = .ok (.if_icmp .le 7, 3) := by decide +kernel
theorem dX7_reset_11 : decode cX7_reset 11 = .ok (.iconst 1, 1) := by decide +kernel
theorem dX7_reset_12 : decode cX7_reset 12 = .ok (.goto 15, 3) := by decide +kernel
theorem dX7_reset_15 : decode cX7_reset 15 = .ok (.aload_n 0, 1) := by decide +kernel
theorem dX7_reset_16 : decode cX7_reset 16 = .ok (.getfield 85, 3) := by decide +kernel
theorem dX7_reset_19 : decode cX7_reset 19 = .ok (.ifCond .eq 7, 3) := by decide +kernel
theorem dX7_reset_22 : decode cX7_reset 22 = .ok (.iconst 2, 1) := by decide +kernel
theorem dX7_reset_23 : decode cX7_reset 23 = .ok (.goto 4, 3) := by decide +kernel
theorem dX7_reset_26 : decode cX7_reset 26 = .ok (.iconst 0, 1) := by decide +kernel
theorem dX7_reset_27 : decode cX7_reset 27 = .ok (.putfield 70, 3) := by decide +kernel
theorem dX7_reset_30 : decode cX7_reset 30 = .ok (.aload_n 0, 1) := by decide +kernel
theorem dX7_reset_31 : decode cX7_reset 31 = .ok (.getfield 70, 3) := by decide +kernel
theorem dX7_reset_34 : decode cX7_reset 34 = .ok (.ifCond .gt 14, 3) := by decide +kernel
theorem dX7_reset_37 : decode cX7_reset 37 = .ok (.aload_n 0, 1) := by decide +kernel
theorem dX7_reset_38 : decode cX7_reset 38 = .ok (.getfield 224, 3) := by decide +kernel
theorem dX7_reset_41 : decode cX7_reset 41 = .ok (.iload_n 1, 1) := by decide +kernel
theorem dX7_reset_42 : decode cX7_reset 42 = .ok (.ishr, 1) := by decide +kernel
theorem dX7_reset_43 : decode cX7_reset 43 = .ok (.iconst 1, 1) := by decide +kernel
theorem dX7_reset_44 : decode cX7_reset 44 = .ok (.iand, 1) := by decide +kernel
theorem dX7_reset_45 : decode cX7_reset 45 = .ok (.ifCond .ne 5, 3) := by decide +kernel
theorem dX7_reset_48 : decode cX7_reset 48 = .ok (.iconst 0, 1) := by decide +kernel
theorem dX7_reset_49 : decode cX7_reset 49 = .ok (.ireturn, 1) := by decide +kernel
theorem dX7_reset_50 : decode cX7_reset 50 = .ok (.iload_n 1, 1) := by decide +kernel
theorem dX7_reset_51 : decode cX7_reset 51 = .ok (.bipush 6, 2) := by decide +kernel
theorem dX7_reset_53 : decode cX7_reset 53 = .ok (.if_icmp .le 18, 3) := by decide +kernel
theorem dX7_reset_56 : decode cX7_reset 56 = .ok (.aload_n 0, 1) := by decide +kernel
theorem dX7_reset_57 : decode cX7_reset 57 = .ok (.getfield 234, 3) := by decide +kernel
theorem dX7_reset_60 : decode cX7_reset 60 = .ok (.ifCond .ne 7, 3) := by decide +kernel
theorem dX7_reset_63 : decode cX7_reset 63 = .ok (.iconst 1, 1) := by decide +kernel
theorem dX7_reset_64 : decode cX7_reset 64 = .ok (.goto 21, 3) := by decide +kernel
theorem dX7_reset_67 : decode cX7_reset 67 = .ok (.iconst 0, 1) := by decide +kernel
theorem dX7_reset_68 : decode cX7_reset 68 = .ok (.goto 17, 3) := by decide +kernel
theorem dX7_reset_71 : decode cX7_reset 71 = .ok (.aload_n 0, 1) := by decide +kernel
theorem dX7_reset_72 : decode cX7_reset 72 = .ok (.getfield 35, 3) := by decide +kernel
theorem dX7_reset_75 : decode cX7_reset 75 = .ok (.iload_n 1, 1) := by decide +kernel
theorem dX7_reset_76 : decode cX7_reset 76 = .ok (.iaload, 1) := by decide +kernel
theorem dX7_reset_77 : decode cX7_reset 77 = .ok (.ifCond .ne 7, 3) := by decide +kernel
theorem dX7_reset_80 : decode cX7_reset 80 = .ok (.iconst 1, 1) := by decide +kernel
theorem dX7_reset_81 : decode cX7_reset 81 = .ok (.goto 4, 3) := by decide +kernel
theorem dX7_reset_84 : decode cX7_reset 84 = .ok (.iconst 0, 1) := by decide +kernel
theorem dX7_reset_85 : decode cX7_reset 85 = .ok (.istore_n 2, 1) := by decide +kernel
theorem dX7_reset_86 : decode cX7_reset 86 = .ok (.aload_n 0, 1) := by decide +kernel
theorem dX7_reset_87 : decode cX7_reset 87 = .ok (.iload_n 2, 1) := by decide +kernel
theorem dX7_reset_88 : decode cX7_reset 88 = .ok (.ifCond .eq 16, 3) := by decide +kernel
theorem dX7_reset_91 : decode cX7_reset 91 = .ok (.aload_n 0, 1) := by decide +kernel
theorem dX7_reset_92 : decode cX7_reset 92 = .ok (.getfield 224, 3) := by decide +kernel
theorem dX7_reset_95 : decode cX7_reset 95 = .ok (.iconst 1, 1) := by decide +kernel
theorem dX7_reset_96 : decode cX7_reset 96 = .ok (.iload_n 1, 1) := by decide +kernel
theorem dX7_reset_97 : decode cX7_reset 97 = .ok (.ishl, 1) := by decide +kernel
theorem dX7_reset_98 : decode cX7_reset 98 = .ok (.iconst (-1), 1) := by decide +kernel
theorem dX7_reset_99 : decode cX7_reset 99 = .ok (.ixor, 1) := by decide +kernel
theorem dX7_reset_100 : decode cX7_reset 100 = .ok (.iand, 1) := by decide +kernel
theorem dX7_reset_101 : decode cX7_reset 101 = .ok (.goto 7, 3) := by decide +kernel
theorem dX7_reset_104 : decode cX7_reset 104 = .ok (.aload_n 0, 1) := by decide +kernel
theorem dX7_reset_105 : decode cX7_reset 105 = .ok (.getfield 224, 3) := by decide +kernel
theorem dX7_reset_108 : decode cX7_reset 108 = .ok (.putfield 224, 3) := by decide +kernel
theorem dX7_reset_111 : decode cX7_reset 111 = .ok (.iload_n 2, 1) := by decide +kernel
theorem dX7_reset_112 : decode cX7_reset 112 = .ok (.ireturn, 1) := by decide +kernel
theorem dX7_cut_0 : decode cX7_cut 0 = .ok (.aload_n 0, 1) := by decide +kernel
theorem dX7_cut_1 : decode cX7_cut 1 = .ok (.iload_n 1, 1) := by decide +kernel
theorem dX7_cut_2 : decode cX7_cut 2 = .ok (.ifCond .lt 9, 3) := by decide +kernel
theorem dX7_cut_5 : decode cX7_cut 5 = .ok (.iload_n 1, 1) := by decide +kernel
theorem dX7_cut_6 : decode cX7_cut 6 = .ok (.bipush 32, 2) := by decide +kernel
theorem dX7_cut_8 : decode cX7_cut 8 = .ok (.if_icmp .le 7, 3) := by decide +kernel
theorem dX7_cut_11 : decode cX7_cut 11 = .ok (.iconst 1, 1) := by decide +kernel
theorem dX7_cut_12 : decode cX7_cut 12 = .ok (.goto 15, 3) := by decide +kernel
theorem dX7_cut_15 : decode cX7_cut 15 = .ok (.aload_n 0, 1) := by decide +kernel
theorem dX7_cut_16 : decode cX7_cut 16 = .ok (.getfield 85, 3) := by decide +kernel
theorem dX7_cut_19 : decode cX7_cut 19 = .ok (.ifCond .eq 7, 3) := by decide +kernel
theorem dX7_cut_22 : decode cX7_cut 22 = .ok (.iconst 2, 1) := by decide +kernel
theorem dX7_cut_23 : decode cX7_cut 23 = .ok (.goto 4, 3) := by decide +kernel
theorem dX7_cut_26 : decode cX7_cut 26 = .ok (.iconst 0, 1) := by decide +kernel
theorem dX7_cut_27 : decode cX7_cut 27 = .ok (.putfield 70, 3) := by decide +kernel
theorem dX7_cut_30 : decode cX7_cut 30 = .ok (.aload_n 0, 1) := by decide +kernel
theorem dX7_cut_31 : decode cX7_cut 31 = .ok (.aload_n 0, 1) := by decide +kernel
theorem dX7_cut_32 : decode cX7_cut 32 = .ok (.getfield 70, 3) := by decide +kernel
theorem dX7_cut_35 : decode cX7_cut 35 = .ok (.ifCond .le 10, 3) := by decide +kernel
theorem dX7_cut_38 : decode cX7_cut 38 = .ok (.aload_n 0, 1) := by decide +kernel
theorem dX7_cut_39 : decode cX7_cut 39 = .ok (.getfield 41, 3) := by decide +kernel
theorem dX7_cut_42 : decode cX7_cut 42 = .ok (.goto 4, 3) := by decide +kernel
theorem dX7_cut_45 : decode cX7_cut 45 = .ok (.iload_n 1, 1) := by decide +kernel
theorem dX7_cut_46 : decode cX7_cut 46 = .ok (.putfield 41, 3) := by decide +kernel
theorem dX7_cut_49 : decode cX7_cut 49 = .ok (.return_, 1) := by decide +kernel
theorem dX7_number_0 : decode cX7_number 0 = .ok (.lconst 0, 1) := by decide +kernel
theorem dX7_number_1 : decode cX7_number 1 = .ok (.lstore_n 3, 1) := by decide +kernel
theorem dX7_number_2 : decode cX7_number 2 = .ok (.iload_n 2, 1) := by decide +kernel
theorem dX7_number_3 : decode cX7_number 3 = .ok (.iconst 1, 1) := by decide +kernel
theorem dX7_number_4 : decode cX7_number 4 = .ok (.isub, 1) := by decide +kernel
theorem dX7_number_5 : decode cX7_number 5 = .ok (.istore 5, 2) := by decide +kernel
theorem dX7_number_7 : decode cX7_number 7 = .ok (.iload 5, 2) := by decide +kernel
theorem dX7_number_9 : decode cX7_number 9 = .ok (.ifCond .lt 25, 3) := by decide +kernel
theorem dX7_number_12 : decode cX7_number 12 = .ok (.lload_n 3, 1) := by decide +kernel
theorem dX7_number_13 : decode cX7_number 13 = .ok (.bipush 8, 2) := by decide +kernel
theorem dX7_number_15 : decode cX7_number 15 = .ok (.lshl, 1) := by decide +kernel
theorem dX7_number_16 : decode cX7_number 16 = .ok (.aload_n 0, 1) := by decide +kernel
theorem dX7_number_17 : decode cX7_number 17 = .ok (.getfield 7, 3) := by decide +kernel
theorem dX7_number_20 : decode cX7_number 20 = .ok (.iload_n 1, 1) := by decide +kernel
theorem dX7_number_21 : decode cX7_number 21 = .ok (.iload 5, 2) := by decide +kernel
theorem dX7_number_23 : decode cX7_number 23 = .ok (.iadd, 1) := by decide +kernel
theorem dX7_number_24 : decode cX7_number 24 = .ok (.iaload, 1) := by decide +kernel
theorem dX7_number_25 : decode cX7_number 25 = .ok (.i2l, 1) := by decide +kernel
theorem dX7_number_26 : decode cX7_number 26 = .ok (.lor, 1) := by decide +kernel
theorem dX7_number_27 : decode cX7_number 27 = .ok (.lstore_n 3, 1) := by decide +kernel
theorem dX7_number_28 : decode cX7_number 28 = .ok (.iinc 5 (-1), 3) := by decide +kernel
theorem dX7_number_31 : decode cX7_number 31 = .ok (.goto (-24), 3) := by decide +kernel
theorem dX7_number_34 : decode cX7_number 34 = .ok (.lload_n 3, 1) := by decide +kernel
theorem dX7_number_35 : decode cX7_number 35 = .ok (.lreturn, 1) := by decide +kernel
set_option maxRecDepth 20000 in
theorem ggX7_isRight_X7_checked : GoodIn wsX7_isRight wsX7_checked := goodIn_r _ [7] (by decide +kernel) (by decide +kernel)
set_option maxRecDepth 20000 in
theorem gX7_isRight_X7_checked : GoodIn wsX7_isRight (va_wsS RX7 77 yX7_checked wsX7_checked) := goodIn_app (goodIn_of _ (by decide +kernel)) ggX7_isRight_X7_checked
set_option maxRecDepth 20000 in
theorem ggX7_isRight_X7_number : GoodIn wsX7_isRight wsX7_number := goodIn_r _ [11, 1, 12, 13, 14, 15, 16, 17, 18, 19, 20, 21, 22, 23, 24, 25, 26, 27, 28, 29, 30, 31, 32, 33, 34, 35, 36, 37, 38, 39, 40, 41, 42, 43] (by decide +kernel) (by decide +kernel)
set_option maxRecDepth 20000 in
theorem gX7_isRight_X7_number : GoodIn wsX7_isRight (wsV RX7 281 RX7 yX7_number wsX7_number) := goodIn_app (goodIn_of _ (by decide +kernel)) ggX7_isRight_X7_number
theorem dX7_isRight_0 : decode cX7_isRight 0 = .ok (.iconst 0, 1) := by decide +kernel
theorem dX7_isRight_1 : decode cX7_isRight 1 = .ok (.istore_n 2, 1) := by decide +kernel
theorem dX7_isRight_2 : decode cX7_isRight 2 = .ok (.iconst 0, 1) := by decide +kernel
theorem dX7_isRight_3 : decode cX7_isRight 3 = .ok (.istore_n 3, 1) := by decide +kernel
theorem dX7_isRight_4 : decode cX7_isRight 4 = .ok (.iload_n 3, 1) := by decide +kernel
theorem dX7_isRight_5 : decode cX7_isRight 5 = .ok (.bipush 30, 2) := by decide +kernel
theorem dX7_isRight_7 : decode cX7_isRight 7 = .ok (.if_icmp .ge 25, 3) := by decide +kernel
theorem dX7_isRight_10 : decode cX7_isRight 10 = .ok (.iload_n 2, 1) := by decide +kernel
theorem dX7_isRight_11 : decode cX7_isRight 11 = .ok (.aload_n 0, 1) := by decide +kernel
theorem dX7_isRight_12 : decode cX7_isRight 12 = .ok (.getfield 7, 3) := by decide +kernel
theorem dX7_isRight_15 : decode cX7_isRight 15 = .ok (.bipush 32, 2) := by decide +kernel
theorem dX7_isRight_17 : decode cX7_isRight 17 = .ok (.iload_n 1, 1) := by decide +kernel
theorem dX7_isRight_18 : decode cX7_isRight 18 = .ok (.imul, 1) := by decide +kernel
theorem dX7_isRight_19 : decode cX7_isRight 19 = .ok (.iload_n 3, 1) := by decide +kernel
theorem dX7_isRight_20 : decode cX7_isRight 20 = .ok (.iadd, 1) := by decide +kernel
theorem dX7_isRight_21 : decode cX7_isRight 21 = .ok (.iaload, 1) := by decide +kernel
theorem dX7_isRight_22 : decode cX7_isRight 22 = .ok (.invokestatic 77, 3) := by decide +kernel
theorem dX7_isRight_25 : decode cX7_isRight 25 = .ok (.istore_n 2, 1) := by decide +kernel
theorem dX7_isRight_26 : decode cX7_isRight 26 = .ok (.iinc 3 1, 3) := by decide +kernel
theorem dX7_isRight_29 : decode cX7_isRight 29 = .ok (.goto (-25), 3) := by decide +kernel
theorem dX7_isRight_32 : decode cX7_isRight 32 = .ok (.aload_n 0, 1) := by decide +kernel
theorem dX7_isRight_33 : decode cX7_isRight 33 = .ok (.bipush 32, 2) := by decide +kernel
theorem dX7_isRight_35 : decode cX7_isRight 35 = .ok (.iload_n 1, 1) := by decide +kernel
theorem dX7_isRight_36 : decode cX7_isRight 36 = .ok (.imul, 1) := by decide +kernel
theorem dX7_isRight_37 : decode cX7_isRight 37 = .ok (.iconst 4, 1) := by decide +kernel
theorem dX7_isRight_38 : decode cX7_isRight 38 = .ok (.invokevirtual 281, 3) := by decide +kernel
theorem dX7_isRight_41 : decode cX7_isRight 41 = .ok (.lstore_n 3, 1) := by decide +kernel
theorem dX7_isRight_42 : decode cX7_isRight 42 = .ok (.aload_n 0, 1) := by decide +kernel
theorem dX7_isRight_43 : decode cX7_isRight 43 = .ok (.bipush 32, 2) := by decide +kernel
theorem dX7_isRight_45 : decode cX7_isRight 45 = .ok (.iload_n 1, 1) := by decide +kernel
theorem dX7_isRight_46 : decode cX7_isRight 46 = .ok (.imul, 1) := by decide +kernel
theorem dX7_isRight_47 : decode cX7_isRight 47 = .ok (.bipush 30, 2) := by decide +kernel
theorem dX7_isRight_49 : decode cX7_isRight 49 = .ok (.iadd, 1) := by decide +kernel
theorem dX7_isRight_50 : decode cX7_isRight 50 = .ok (.iconst 2, 1) := by decide +kernel
theorem dX7_isRight_51 : decode cX7_isRight 51 = .ok (.invokevirtual 281, 3) := by decide +kernel
theorem dX7_isRight_54 : decode cX7_isRight 54 = .ok (.iload_n 2, 1) := by decide +kernel
theorem dX7_isRight_55 : decode cX7_isRight 55 = .ok (.i2l, 1) := by decide +kernel
theorem dX7_isRight_56 : decode cX7_isRight 56 = .ok (.lcmp, 1) := by decide +kernel
theorem dX7_isRight_57 : decode cX7_isRight 57 = .ok (.ifCond .ne 36, 3) := by decide +kernel
theorem dX7_isRight_60 : decode cX7_isRight 60 = .ok (.lload_n 3, 1) := by decide +kernel
theorem dX7_isRight_61 : decode cX7_isRight 61 = .ok (.lconst 1, 1) := by decide +kernel
theorem dX7_isRight_62 : decode cX7_isRight 62 = .ok (.lcmp, 1) := by decide +kernel
theorem dX7_isRight_63 : decode cX7_isRight 63 = .ok (.ifCond .lt 30, 3) := by decide +kernel
theorem dX7_isRight_66 : decode cX7_isRight 66 = .ok (.lload_n 3, 1) := by decide +kernel
theorem dX7_isRight_67 : decode cX7_isRight 67 = .ok (.ldc2_w 285, 3) := by decide +kernel
theorem dX7_isRight_70 : decode cX7_isRight 70 = .ok (.lcmp, 1) := by decide +kernel
theorem dX7_isRight_71 : decode cX7_isRight 71 = .ok (.ifCond .gt 22, 3) := by decide +kernel
theorem dX7_isRight_74 : decode cX7_isRight 74 = .ok (.lload_n 3, 1) := by decide +kernel
theorem dX7_isRight_75 : decode cX7_isRight 75 = .ok (.lconst 1, 1) := by decide +kernel
theorem dX7_isRight_76 : decode cX7_isRight 76 = .ok (.lsub, 1) := by decide +kernel
theorem dX7_isRight_77 : decode cX7_isRight 77 = .ok (.aload_n 0, 1) := by decide +kernel
theorem dX7_isRight_78 : decode cX7_isRight 78 = .ok (.getfield 52, 3) := by decide +kernel
theorem dX7_isRight_81 : decode cX7_isRight 81 = .ok (.i2l, 1) := by decide +kernel
theorem dX7_isRight_82 : decode cX7_isRight 82 = .ok (.lrem, 1) := by decide +kernel
theorem dX7_isRight_83 : decode cX7_isRight 83 = .ok (.iload_n 1, 1) := by decide +kernel
theorem dX7_isRight_84 : decode cX7_isRight 84 = .ok (.i2l, 1) := by decide +kernel
theorem dX7_isRight_85 : decode cX7_isRight 85 = .ok (.lcmp, 1) := by decide +kernel
theorem dX7_isRight_86 : decode cX7_isRight 86 = .ok (.ifCond .ne 7, 3) := by decide +kernel
theorem dX7_isRight_89 : decode cX7_isRight 89 = .ok (.iconst 1, 1) := by decide +kernel
theorem dX7_isRight_90 : decode cX7_isRight 90 = .ok (.goto 4, 3) := by decide +kernel
theorem dX7_isRight_93 : decode cX7_isRight 93 = .ok (.iconst 0, 1) := by decide +kernel
theorem dX7_isRight_94 : decode cX7_isRight 94 = .ok (.ireturn, 1) := by decide +kernel
set_option maxRecDepth 20000 in
theorem ggX7_begin_X7_isRight : GoodIn wsX7_begin wsX7_isRight := goodIn_r _ [29, 30, 31, 22, 32, 33, 28, 34, 35, 36, 37, 38, 39, 40, 41, 42, 43, 44, 45, 46, 47, 48, 49, 50, 51, 52, 53, 54, 55, 56, 57, 58, 59, 60, 61, 62, 63, 64, 65, 66, 67, 68, 69, 70] (by decide +kernel) (by decide +kernel)
set_option maxRecDepth 20000 in
theorem gX7_begin_X7_isRight : GoodIn wsX7_begin (wsV RX7 289 RX7 yX7_isRight wsX7_isRight) := goodIn_app (goodIn_of _ (by decide +kernel)) ggX7_begin_X7_isRight
set_option maxRecDepth 20000 in
theorem ggX7_begin_X7_number : GoodIn wsX7_begin wsX7_number := goodIn_r _ [38, 30, 39, 40, 41, 42, 43, 44, 45, 46, 47, 48, 49, 50, 51, 52, 53, 54, 55, 56, 57, 58, 59, 60, 61, 62, 63, 64, 65, 66, 67, 68, 69, 70] (by decide +kernel) (by decide +kernel)
set_option maxRecDepth 20000 in
theorem gX7_begin_X7_number : GoodIn wsX7_begin (wsV RX7 281 RX7 yX7_number wsX7_number) := goodIn_app (goodIn_of _ (by decide +kernel)) ggX7_begin_X7_number
theorem dX7_begin_0 : decode cX7_begin 0 = .ok (.aload_n 0, 1) := by decide +kernel
theorem dX7_begin_1 : decode cX7_begin 1 = .ok (.iconst 0, 1) := by decide +kernel
theorem dX7_begin_2 : decode cX7_begin 2 = .ok (.putfield 85, 3) := by decide +kernel
theorem dX7_begin_5 : decode cX7_begin 5 = .ok (.aload_n 0, 1) := by decide +kernel
theorem dX7_begin_6 : decode cX7_begin 6 = .ok (.iconst 0, 1) := by decide +kernel
theorem dX7_begin_7 : decode cX7_begin 7 = .ok (.putfield 253, 3) := by decide +kernel
theorem dX7_begin_10 : decode cX7_begin 10 = .ok (.aload_n 0, 1) := by decide +kernel
theorem dX7_begin_11 : decode cX7_begin 11 = .ok (.lconst 0, 1) := by decide +kernel
theorem dX7_begin_12 : decode cX7_begin 12 = .ok (.putfield 112, 3) := by decide +kernel
theorem dX7_begin_15 : decode cX7_begin 15 = .ok (.aload_n 0, 1) := by decide +kernel
theorem dX7_begin_16 : decode cX7_begin 16 = .ok (.lconst 0, 1) := by decide +kernel
theorem dX7_begin_17 : decode cX7_begin 17 = .ok (.putfield 144, 3) := by decide +kernel
theorem dX7_begin_20 : decode cX7_begin 20 = .ok (.aload_n 0, 1) := by decide +kernel
theorem dX7_begin_21 : decode cX7_begin 21 = .ok (.lconst 0, 1) := by decide +kernel
theorem dX7_begin_22 : decode cX7_begin 22 = .ok (.putfield 92, 3) := by decide +kernel
theorem dX7_begin_25 : decode cX7_begin 25 = .ok (.aload_n 0, 1) := by decide +kernel
theorem dX7_begin_26 : decode cX7_begin 26 = .ok (.iconst 0, 1) := by decide +kernel
theorem dX7_begin_27 : decode cX7_begin 27 = .ok (.putfield 106, 3) := by decide +kernel
theorem dX7_begin_30 : decode cX7_begin 30 = .ok (.aload_n 0, 1) := by decide +kernel
theorem dX7_begin_31 : decode cX7_begin 31 = .ok (.iconst 0, 1) := by decide +kernel
theorem dX7_begin_32 : decode cX7_begin 32 = .ok (.putfield 109, 3) := by decide +kernel
theorem dX7_begin_35 : decode cX7_begin 35 = .ok (.aload_n 0, 1) := by decide +kernel
theorem dX7_begin_36 : decode cX7_begin 36 = .ok (.iconst 0, 1) := by decide +kernel
theorem dX7_begin_37 : decode cX7_begin 37 = .ok (.putfield 155, 3) := by decide +kernel
theorem dX7_begin_40 : decode cX7_begin 40 = .ok (.aload_n 0, 1) := by decide +kernel
theorem dX7_begin_41 : decode cX7_begin 41 = .ok (.lconst 0, 1) := by decide +kernel
theorem dX7_begin_42 : decode cX7_begin 42 = .ok (.putfield 205, 3) := by decide +kernel
theorem dX7_begin_45 : decode cX7_begin 45 = .ok (.aload_n 0, 1) := by decide +kernel
theorem dX7_begin_46 : decode cX7_begin 46 = .ok (.lconst 0, 1) := by decide +kernel
theorem dX7_begin_47 : decode cX7_begin 47 = .ok (.putfield 210, 3) := by decide +kernel
theorem dX7_begin_50 : decode cX7_begin 50 = .ok (.aload_n 0, 1) := by decide +kernel
theorem dX7_begin_51 : decode cX7_begin 51 = .ok (.iconst 0, 1) := by decide +kernel
theorem dX7_begin_52 : decode cX7_begin 52 = .ok (.putfield 224, 3) := by decide +kernel
theorem dX7_begin_55 : decode cX7_begin 55 = .ok (.aload_n 0, 1) := by decide +kernel
theorem dX7_begin_56 : decode cX7_begin 56 = .ok (.iconst 0, 1) := by decide +kernel
theorem dX7_begin_57 : decode cX7_begin 57 = .ok (.putfield 234, 3) := by decide +kernel
theorem dX7_begin_60 : decode cX7_begin 60 = .ok (.aload_n 0, 1) := by decide +kernel
theorem dX7_begin_61 : decode cX7_begin 61 = .ok (.iconst 0, 1) := by decide +kernel
theorem dX7_begin_62 : decode cX7_begin 62 = .ok (.putfield 237, 3) := by decide +kernel
theorem dX7_begin_65 : decode cX7_begin 65 = .ok (.aload_n 0, 1) := by decide +kernel
theorem dX7_begin_66 : decode cX7_begin 66 = .ok (.bipush 32, 2) := by decide +kernel
theorem dX7_begin_68 : decode cX7_begin 68 = .ok (.putfield 41, 3) := by decide +kernel
theorem dX7_begin_71 : decode cX7_begin 71 = .ok (.aload_n 0, 1) := by decide +kernel
theorem dX7_begin_72 : decode cX7_begin 72 = .ok (.iconst 1, 1) := by decide +kernel
theorem dX7_begin_73 : decode cX7_begin 73 = .ok (.putfield 256, 3) := by decide +kernel
theorem dX7_begin_76 : decode cX7_begin 76 = .ok (.iconst 0, 1) := by decide +kernel
theorem dX7_begin_77 : decode cX7_begin 77 = .ok (.istore_n 1, 1) := by decide +kernel
theorem dX7_begin_78 : decode cX7_begin 78 = .ok (.iload_n 1, 1) := by decide +kernel
theorem dX7_begin_79 : decode cX7_begin 79 = .ok (.bipush 7, 2) := by decide +kernel
theorem dX7_begin_81 : decode cX7_begin 81 = .ok (.if_icmp .ge 16, 3) := by decide +kernel
theorem dX7_begin_84 : decode cX7_begin 84 = .ok (.aload_n 0, 1) := by decide +kernel
theorem dX7_begin_85 : decode cX7_begin 85 = .ok (.getfield 35, 3) := by decide +kernel
theorem dX7_begin_88 : decode cX7_begin 88 = .ok (.iload_n 1, 1) := by decide +kernel
theorem dX7_begin_89 : decode cX7_begin 89 = .ok (.iconst 0, 1) := by decide +kernel
theorem dX7_begin_90 : decode cX7_begin 90 = .ok (.iastore, 1) := by decide +kernel
theorem dX7_begin_91 : decode cX7_begin 91 = .ok (.iinc 1 1, 3) := by decide +kernel
theorem dX7_begin_94 : decode cX7_begin 94 = .ok (.goto (-16), 3) := by decide +kernel
theorem dX7_begin_97 : decode cX7_begin 97 = .ok (.iconst 0, 1) := by decide +kernel
theorem dX7_begin_98 : decode cX7_begin 98 = .ok (.istore_n 1, 1) := by decide +kernel
theorem dX7_begin_99 : decode cX7_begin 99 = .ok (.iload_n 1, 1) := by decide +kernel
theorem dX7_begin_100 : decode cX7_begin 100 = .ok (.iconst 4, 1) := by decide +kernel
theorem dX7_begin_101 : decode cX7_begin 101 = .ok (.if_icmp .ge 41, 3) := by decide +kernel
theorem dX7_begin_104 : decode cX7_begin 104 = .ok (.aload_n 0, 1) := by decide +kernel
theorem dX7_begin_105 : decode cX7_begin 105 = .ok (.getfield 16, 3) := by decide +kernel
theorem dX7_begin_108 : decode cX7_begin 108 = .ok (.iload_n 1, 1) := by decide +kernel
theorem dX7_begin_109 : decode cX7_begin 109 = .ok (.ldc2_w 287, 3) := by decide +kernel
theorem dX7_begin_112 : decode cX7_begin 112 = .ok (.lastore, 1) := by decide +kernel
theorem dX7_begin_113 : decode cX7_begin 113 = .ok (.aload_n 0, 1) := by decide +kernel
theorem dX7_begin_114 : decode cX7_begin 114 = .ok (.getfield 29, 3) := by decide +kernel
theorem dX7_begin_117 : decode cX7_begin 117 = .ok (.iload_n 1, 1) := by decide +kernel
theorem dX7_begin_118 : decode cX7_begin 118 = .ok (.iconst 0, 1) := by decide +kernel
theorem dX7_begin_119 : decode cX7_begin 119 = .ok (.iastore, 1) := by decide +kernel
theorem dX7_begin_120 : decode cX7_begin 120 = .ok (.aload_n 0, 1) := by decide +kernel
theorem dX7_begin_121 : decode cX7_begin 121 = .ok (.getfield 32, 3) := by decide +kernel
theorem dX7_begin_124 : decode cX7_begin 124 = .ok (.iload_n 1, 1) := by decide +kernel
theorem dX7_begin_125 : decode cX7_begin 125 = .ok (.sipush 1000, 3) := by decide +kernel
theorem dX7_begin_128 : decode cX7_begin 128 = .ok (.iastore, 1) := by decide +kernel
theorem dX7_begin_129 : decode cX7_begin 129 = .ok (.aload_n 0, 1) := by decide +kernel
theorem dX7_begin_130 : decode cX7_begin 130 = .ok (.getfield 38, 3) := by decide +kernel
theorem dX7_begin_133 : decode cX7_begin 133 = .ok (.iload_n 1, 1) := by decide +kernel
theorem dX7_begin_134 : decode cX7_begin 134 = .ok (.iconst 0, 1) := by decide +kernel
theorem dX7_begin_135 : decode cX7_begin 135 = .ok (.iastore, 1) := by decide +kernel
theorem dX7_begin_136 : decode cX7_begin 136 = .ok (.iinc 1 1, 3) := by decide +kernel
theorem dX7_begin_139 : decode cX7_begin 139 = .ok (.goto (-40), 3) := by decide +kernel
theorem dX7_begin_142 : decode cX7_begin 142 = .ok (.iconst (-1), 1) := by decide +kernel
theorem dX7_begin_143 : decode cX7_begin 143 = .ok (.istore_n 1, 1) := by decide +kernel
theorem dX7_begin_144 : decode cX7_begin 144 = .ok (.iconst 0, 1) := by decide +kernel
theorem dX7_begin_145 : decode cX7_begin 145 = .ok (.istore_n 2, 1) := by decide +kernel
theorem dX7_begin_146 : decode cX7_begin 146 = .ok (.iload_n 2, 1) := by decide +kernel
theorem dX7_begin_147 : decode cX7_begin 147 = .ok (.aload_n 0, 1) := by decide +kernel
theorem dX7_begin_148 : decode cX7_begin 148 = .ok (.getfield 52, 3) := by decide +kernel
theorem dX7_begin_151 : decode cX7_begin 151 = .ok (.if_icmp .ge 45, 3) := by decide +kernel
theorem dX7_begin_154 : decode cX7_begin 154 = .ok (.aload_n 0, 1) := by decide +kernel
theorem dX7_begin_155 : decode cX7_begin 155 = .ok (.iload_n 2, 1) := by decide +kernel
theorem dX7_begin_156 : decode cX7_begin 156 = .ok (.invokevirtual 289, 3) := by decide +kernel
theorem dX7_begin_159 : decode cX7_begin 159 = .ok (.ifCond .eq 31, 3) := by decide +kernel
theorem dX7_begin_162 : decode cX7_begin 162 = .ok (.iload_n 1, 1) := by decide +kernel
theorem dX7_begin_163 : decode cX7_begin 163 = .ok (.ifCond .lt 25, 3) := by decide +kernel
theorem dX7_begin_166 : decode cX7_begin 166 = .ok (.aload_n 0, 1) := by decide +kernel
theorem dX7_begin_167 : decode cX7_begin 167 = .ok (.bipush 32, 2) := by decide +kernel
theorem dX7_begin_169 : decode cX7_begin 169 = .ok (.iload_n 2, 1) := by decide +kernel
theorem dX7_begin_170 : decode cX7_begin 170 = .ok (.imul, 1) := by decide +kernel
theorem dX7_begin_171 : decode cX7_begin 171 = .ok (.iconst 4, 1) := by decide +kernel
theorem dX7_begin_172 : decode cX7_begin 172 = .ok (.invokevirtual 281, 3) := by decide +kernel
theorem dX7_begin_175 : decode cX7_begin 175 = .ok (.aload_n 0, 1) := by decide +kernel
theorem dX7_begin_176 : decode cX7_begin 176 = .ok (.bipush 32, 2) := by decide +kernel
theorem dX7_begin_178 : decode cX7_begin 178 = .ok (.iload_n 1, 1) := by decide +kernel
theorem dX7_begin_179 : decode cX7_begin 179 = .ok (.imul, 1) := by decide +kernel
theorem dX7_begin_180 : decode cX7_begin 180 = .ok (.iconst 4, 1) := by decide +kernel
theorem dX7_begin_181 : decode cX7_begin 181 = .ok (.invokevirtual 281, 3) := by decide +kernel
theorem dX7_begin_184 : decode cX7_begin 184 = .ok (.lcmp, 1) := by decide +kernel
theorem dX7_begin_185 : decode cX7_begin 185 = .ok (.ifCond .le 5, 3) := by decide +kernel
theorem dX7_begin_188 : decode cX7_begin 188 = .ok (.iload_n 2, 1) := by decide +kernel
theorem dX7_begin_189 : decode cX7_begin 189 = .ok (.istore_n 1, 1) := by decide +kernel
theorem dX7_begin_190 : decode cX7_begin 190 = .ok (.iinc 2 1, 3) := by decide +kernel
theorem dX7_begin_193 : decode cX7_begin 193 = .ok (.goto (-47), 3) := by decide +kernel
theorem dX7_begin_196 : decode cX7_begin 196 = .ok (.iload_n 1, 1) := by decide +kernel
theorem dX7_begin_197 : decode cX7_begin 197 = .ok (.ifCond .lt 121, 3) := by decide +kernel
theorem dX7_begin_200 : decode cX7_begin 200 = .ok (.aload_n 0, 1) := by decide +kernel
theorem dX7_begin_201 : decode cX7_begin 201 = .ok (.aload_n 0, 1) := by decide +kernel
theorem dX7_begin_202 : decode cX7_begin 202 = .ok (.bipush 32, 2) := by decide +kernel
theorem dX7_begin_204 : decode cX7_begin 204 = .ok (.iload_n 1, 1) := by decide +kernel
theorem dX7_begin_205 : decode cX7_begin 205 = .ok (.imul, 1) := by decide +kernel
theorem dX7_begin_206 : decode cX7_begin 206 = .ok (.iconst 4, 1) := by decide +kernel
theorem dX7_begin_207 : decode cX7_begin 207 = .ok (.invokevirtual 281, 3) := by decide +kernel
theorem dX7_begin_210 : decode cX7_begin 210 = .ok (.l2i, 1) := by decide +kernel
theorem dX7_begin_211 : decode cX7_begin 211 = .ok (.iconst 1, 1) := by decide +kernel
theorem dX7_begin_212 : decode cX7_begin 212 = .ok (.iadd, 1) := by decide +kernel
theorem dX7_begin_213 : decode cX7_begin 213 = .ok (.putfield 256, 3) := by decide +kernel
theorem dX7_begin_216 : decode cX7_begin 216 = .ok (.aload_n 0, 1) := by decide +kernel
theorem dX7_begin_217 : decode cX7_begin 217 = .ok (.aload_n 0, 1) := by decide +kernel
theorem dX7_begin_218 : decode cX7_begin 218 = .ok (.bipush 32, 2) := by decide +kernel
theorem dX7_begin_220 : decode cX7_begin 220 = .ok (.iload_n 1, 1) := by decide +kernel
theorem dX7_begin_221 : decode cX7_begin 221 = .ok (.imul, 1) := by decide +kernel
theorem dX7_begin_222 : decode cX7_begin 222 = .ok (.iconst 4, 1) := by decide +kernel
theorem dX7_begin_223 : decode cX7_begin 223 = .ok (.iadd, 1) := by decide +kernel
theorem dX7_begin_224 : decode cX7_begin 224 = .ok (.iconst 4, 1) := by decide +kernel
theorem dX7_begin_225 : decode cX7_begin 225 = .ok (.invokevirtual 281, 3) := by decide +kernel
theorem dX7_begin_228 : decode cX7_begin 228 = .ok (.l2i, 1) := by decide +kernel
theorem dX7_begin_229 : decode cX7_begin 229 = .ok (.putfield 253, 3) := by decide +kernel
theorem dX7_begin_232 : decode cX7_begin 232 = .ok (.aload_n 0, 1) := by decide +kernel
theorem dX7_begin_233 : decode cX7_begin 233 = .ok (.aload_n 0, 1) := by decide +kernel
theorem dX7_begin_234 : decode cX7_begin 234 = .ok (.bipush 32, 2) := by decide +kernel
theorem dX7_begin_236 : decode cX7_begin 236 = .ok (.iload_n 1, 1) := by decide +kernel
theorem dX7_begin_237 : decode cX7_begin 237 = .ok (.imul, 1) := by decide +kernel
theorem dX7_begin_238 : decode cX7_begin 238 = .ok (.bipush 8, 2) := by decide +kernel
theorem dX7_begin_240 : decode cX7_begin 240 = .ok (.iadd, 1) := by decide +kernel
theorem dX7_begin_241 : decode cX7_begin 241 = .ok (.bipush 8, 2) := by decide +kernel
theorem dX7_begin_243 : decode cX7_begin 243 = .ok (.invokevirtual 281, 3) := by decide +kernel
theorem dX7_begin_246 : decode cX7_begin 246 = .ok (.putfield 112, 3) := by decide +kernel
theorem dX7_begin_249 : decode cX7_begin 249 = .ok (.aload_n 0, 1) := by decide +kernel
theorem dX7_begin_250 : decode cX7_begin 250 = .ok (.aload_n 0, 1) := by decide +kernel
theorem dX7_begin_251 : decode cX7_begin 251 = .ok (.getfield 112, 3) := by decide +kernel
theorem dX7_begin_254 : decode cX7_begin 254 = .ok (.lconst 0, 1) := by decide +kernel
theorem dX7_begin_255 : decode cX7_begin 255 = .ok (.lcmp, 1) := by decide +kernel
theorem dX7_begin_256 : decode cX7_begin 256 = .ok (.ifCond .ge 7, 3) := by decide +kernel
theorem dX7_begin_259 : decode cX7_begin 259 = .ok (.lconst 0, 1) := by decide +kernel
theorem dX7_begin_260 : decode cX7_begin 260 = .ok (.goto 34, 3) := by decide +kernel
theorem dX7_begin_263 : decode cX7_begin 263 = .ok (.aload_n 0, 1) := by decide +kernel
theorem dX7_begin_264 : decode cX7_begin 264 = .ok (.getfield 112, 3) := by decide +kernel
theorem dX7_begin_267 : decode cX7_begin 267 = .ok (.ldc2_w 140, 3) := by decide +kernel
theorem dX7_begin_270 : decode cX7_begin 270 = .ok (.aload_n 0, 1) := by decide +kernel
theorem dX7_begin_271 : decode cX7_begin 271 = .ok (.getfield 57, 3) := by decide +kernel
theorem dX7_begin_274 : decode cX7_begin 274 = .ok (.lmul, 1) := by decide +kernel
theorem dX7_begin_275 : decode cX7_begin 275 = .ok (.lcmp, 1) := by decide +kernel
theorem dX7_begin_276 : decode cX7_begin 276 = .ok (.ifCond .le 14, 3) := by decide +kernel
theorem dX7_begin_279 : decode cX7_begin 279 = .ok (.ldc2_w 140, 3) := by decide +kernel
theorem dX7_begin_282 : decode cX7_begin 282 = .ok (.aload_n 0, 1) := by decide +kernel
theorem dX7_begin_283 : decode cX7_begin 283 = .ok (.getfield 57, 3) := by decide +kernel
theorem dX7_begin_286 : decode cX7_begin 286 = .ok (.lmul, 1) := by decide +kernel
theorem dX7_begin_287 : decode cX7_begin 287 = .ok (.goto 7, 3) := by decide +kernel
theorem dX7_begin_290 : decode cX7_begin 290 = .ok (.aload_n 0, 1) := by decide +kernel
theorem dX7_begin_291 : decode cX7_begin 291 = .ok (.getfield 112, 3) := by decide +kernel
theorem dX7_begin_294 : decode cX7_begin 294 = .ok (.putfield 112, 3) := by decide +kernel
theorem dX7_begin_297 : decode cX7_begin 297 = .ok (.aload_n 0, 1) := by decide +kernel
theorem dX7_begin_298 : decode cX7_begin 298 = .ok (.aload_n 0, 1) := by decide +kernel
theorem dX7_begin_299 : decode cX7_begin 299 = .ok (.bipush 32, 2) := by decide +kernel
theorem dX7_begin_301 : decode cX7_begin 301 = .ok (.iload_n 1, 1) := by decide +kernel
theorem dX7_begin_302 : decode cX7_begin 302 = .ok (.imul, 1) := by decide +kernel
theorem dX7_begin_303 : decode cX7_begin 303 = .ok (.bipush 16, 2) := by decide +kernel
theorem dX7_begin_305 : decode cX7_begin 305 = .ok (.iadd, 1) := by decide +kernel
theorem dX7_begin_306 : decode cX7_begin 306 = .ok (.iconst 2, 1) := by decide +kernel
theorem dX7_begin_307 : decode cX7_begin 307 = .ok (.invokevirtual 281, 3) := by decide +kernel
theorem dX7_begin_310 : decode cX7_begin 310 = .ok (.l2i, 1) := by decide +kernel
theorem dX7_begin_311 : decode cX7_begin 311 = .ok (.sipush 511, 3) := by decide +kernel
theorem dX7_begin_314 : decode cX7_begin 314 = .ok (.iand, 1) := by decide +kernel
theorem dX7_begin_315 : decode cX7_begin 315 = .ok (.putfield 224, 3) := by decide +kernel
theorem dX7_begin_318 : decode cX7_begin 318 = .ok (.return_, 1) := by decide +kernel
set_option maxRecDepth 20000 in
theorem ggX7_power_X7_begin : GoodIn wsX7_power wsX7_begin := goodIn_r _ [7, 8, 2, 9, 10, 11, 12, 13, 14, 15, 16, 17, 18, 19, 20, 21, 22, 23, 24, 25, 26, 27, 28, 29, 30, 31, 32, 33, 6, 34, 35, 36, 37, 38, 39, 40, 41, 42, 43, 44, 45, 46, 47, 48, 49, 50, 51, 52, 53, 54, 55, 56, 57, 58, 59, 60, 61, 62, 63, 64, 65, 66, 67, 68, 69, 70, 71, 72, 73, 74, 75] (by decide +kernel) (by decide +kernel)
set_option maxRecDepth 20000 in
theorem gX7_power_X7_begin : GoodIn wsX7_power (wsV RX7 67 RX7 yX7_begin wsX7_begin) := goodIn_app (goodIn_of _ (by decide +kernel)) ggX7_power_X7_begin
theorem dX7_power_0 : decode cX7_power 0 = .ok (.aload_n 0, 1) := by decide +kernel
theorem dX7_power_1 : decode cX7_power 1 = .ok (.iconst 0, 1) := by decide +kernel
theorem dX7_power_2 : decode cX7_power 2 = .ok (.putfield 70, 3) := by decide +kernel
theorem dX7_power_5 : decode cX7_power 5 = .ok (.aload_n 0, 1) := by decide +kernel
theorem dX7_power_6 : decode cX7_power 6 = .ok (.invokevirtual 67, 3) := by decide +kernel
theorem dX7_power_9 : decode cX7_power 9 = .ok (.aload_n 0, 1) := by decide +kernel
theorem dX7_power_10 : decode cX7_power 10 = .ok (.getfield 253, 3) := by decide +kernel
theorem dX7_power_13 : decode cX7_power 13 = .ok (.ireturn, 1) := by decide +kernel
theorem dX7_off_0 : decode cX7_off 0 = .ok (.aload_n 0, 1) := by decide +kernel
theorem dX7_off_1 : decode cX7_off 1 = .ok (.iconst 0, 1) := by decide +kernel
theorem dX7_off_2 : decode cX7_off 2 = .ok (.putfield 70, 3) := by decide +kernel
theorem dX7_off_5 : decode cX7_off 5 = .ok (.aload_n 0, 1) := by decide +kernel
theorem dX7_off_6 : decode cX7_off 6 = .ok (.getfield 85, 3) := by decide +kernel
theorem dX7_off_9 : decode cX7_off 9 = .ok (.ireturn, 1) := by decide +kernel
theorem dX7_noPower_0 : decode cX7_noPower 0 = .ok (.aload_n 0, 1) := by decide +kernel
theorem dX7_noPower_1 : decode cX7_noPower 1 = .ok (.aload_n 0, 1) := by decide +kernel
theorem dX7_noPower_2 : decode cX7_noPower 2 = .ok (.getfield 85, 3) := by decide +kernel
theorem dX7_noPower_5 : decode cX7_noPower 5 = .ok (.ifCond .eq 7, 3) := by decide +kernel
theorem dX7_noPower_8 : decode cX7_noPower 8 = .ok (.iconst 1, 1) := by decide +kernel
theorem dX7_noPower_9 : decode cX7_noPower 9 = .ok (.goto 4, 3) := by decide +kernel
theorem dX7_noPower_12 : decode cX7_noPower 12 = .ok (.iconst 0, 1) := by decide +kernel
theorem dX7_noPower_13 : decode cX7_noPower 13 = .ok (.putfield 70, 3) := by decide +kernel
theorem dX7_noPower_16 : decode cX7_noPower 16 = .ok (.aload_n 0, 1) := by decide +kernel
theorem dX7_noPower_17 : decode cX7_noPower 17 = .ok (.getfield 85, 3) := by decide +kernel
theorem dX7_noPower_20 : decode cX7_noPower 20 = .ok (.ireturn, 1) := by decide +kernel
set_option maxRecDepth 20000 in
theorem ggX7_time_X7_noPower : GoodIn wsX7_time wsX7_noPower := goodIn_r _ [6, 7, 8, 9, 10, 11, 12, 13, 14, 15, 16, 17, 18, 19, 20, 21, 22, 23, 24, 25, 26, 27, 28, 29, 30, 31, 32, 33, 34, 35, 36, 37, 38, 39, 40] (by decide +kernel) (by decide +kernel)
set_option maxRecDepth 20000 in
theorem gX7_time_X7_noPower : GoodIn wsX7_time (wsV RX7 292 RX7 yX7_noPower wsX7_noPower) := goodIn_app (goodIn_of _ (by decide +kernel)) ggX7_time_X7_noPower
theorem dX7_time_0 : decode cX7_time 0 = .ok (.aload_n 0, 1) := by decide +kernel
theorem dX7_time_1 : decode cX7_time 1 = .ok (.invokevirtual 292, 3) := by decide +kernel
theorem dX7_time_4 : decode cX7_time 4 = .ok (.ifCond .eq 7, 3) := by decide +kernel
theorem dX7_time_7 : decode cX7_time 7 = .ok (.iconst 0, 1) := by decide +kernel
theorem dX7_time_8 : decode cX7_time 8 = .ok (.goto 7, 3) := by decide +kernel
theorem dX7_time_11 : decode cX7_time 11 = .ok (.aload_n 0, 1) := by decide +kernel
theorem dX7_time_12 : decode cX7_time 12 = .ok (.getfield 253, 3) := by decide +kernel
theorem dX7_time_15 : decode cX7_time 15 = .ok (.ireturn, 1) := by decide +kernel
set_option maxRecDepth 20000 in
theorem ggX7_charge_X7_noPower : GoodIn wsX7_charge wsX7_noPower := goodIn_r _ [7, 8, 9, 10, 11, 12, 13, 14, 15, 16, 17, 18, 19, 20, 21, 22, 23, 24, 25, 26, 27, 28, 29, 30, 31, 32, 33, 34, 35, 36, 37, 38, 39, 40, 41] (by decide +kernel) (by decide +kernel)
set_option maxRecDepth 20000 in
theorem gX7_charge_X7_noPower : GoodIn wsX7_charge (wsV RX7 292 RX7 yX7_noPower wsX7_noPower) := goodIn_app (goodIn_of _ (by decide +kernel)) ggX7_charge_X7_noPower
theorem dX7_charge_0 : decode cX7_charge 0 = .ok (.aload_n 0, 1) := by decide +kernel
theorem dX7_charge_1 : decode cX7_charge 1 = .ok (.invokevirtual 292, 3) := by decide +kernel
theorem dX7_charge_4 : decode cX7_charge 4 = .ok (.ifCond .eq 7, 3) := by decide +kernel
theorem dX7_charge_7 : decode cX7_charge 7 = .ok (.dconst 0, 1) := by decide +kernel
theorem dX7_charge_8 : decode cX7_charge 8 = .ok (.goto 12, 3) := by decide +kernel
theorem dX7_charge_11 : decode cX7_charge 11 = .ok (.aload_n 0, 1) := by decide +kernel
theorem dX7_charge_12 : decode cX7_charge 12 = .ok (.getfield 112, 3) := by decide +kernel
theorem dX7_charge_15 : decode cX7_charge 15 = .ok (.l2d, 1) := by decide +kernel
theorem dX7_charge_16 : decode cX7_charge 16 = .ok (.ldc2_w 115, 3) := by decide +kernel
theorem dX7_charge_19 : decode cX7_charge 19 = .ok (.ddiv, 1) := by decide +kernel
theorem dX7_charge_20 : decode cX7_charge 20 = .ok (.dreturn, 1) := by decide +kernel
set_option maxRecDepth 20000 in
theorem ggX7_percent_X7_noPower : GoodIn wsX7_percent wsX7_noPower := goodIn_r _ [9, 10, 11, 15, 16, 17, 18, 19, 20, 21, 22, 23, 24, 25, 26, 27, 28, 29, 30, 31, 32, 33, 34, 35, 36, 37, 38, 39, 40, 41, 42, 43, 44, 45, 46] (by decide +kernel) (by decide +kernel)
set_option maxRecDepth 20000 in
theorem gX7_percent_X7_noPower : GoodIn wsX7_percent (wsV RX7 292 RX7 yX7_noPower wsX7_noPower) := goodIn_app (goodIn_of _ (by decide +kernel)) ggX7_percent_X7_noPower
set_option maxRecDepth 20000 in
theorem ggX7_percent_X7_floor : GoodIn wsX7_percent wsX7_floor := goodIn_r _ [14] (by decide +kernel) (by decide +kernel)
set_option maxRecDepth 20000 in
theorem gX7_percent_X7_floor : GoodIn wsX7_percent (va_wsS RX7 173 yX7_floor wsX7_floor) := goodIn_app (goodIn_of _ (by decide +kernel)) ggX7_percent_X7_floor
theorem dX7_percent_0 : decode cX7_percent 0 = .ok (.aload_n 0, 1) := by decide +kernel
theorem dX7_percent_1 : decode cX7_percent 1 = .ok (.invokevirtual 292, 3) := by decide +kernel
theorem dX7_percent_4 : decode cX7_percent 4 = .ok (.ifCond .eq 7, 3) := by decide +kernel
theorem dX7_percent_7 : decode cX7_percent 7 = .ok (.iconst 0, 1) := by decide +kernel
theorem dX7_percent_8 : decode cX7_percent 8 = .ok (.goto 23, 3) := by decide +kernel
theorem dX7_percent_11 : decode cX7_percent 11 = .ok (.ldc2_w 55, 3) := by decide +kernel
theorem dX7_percent_14 : decode cX7_percent 14 = .ok (.aload_n 0, 1) := by decide +kernel
theorem dX7_percent_15 : decode cX7_percent 15 = .ok (.getfield 112, 3) := by decide +kernel
theorem dX7_percent_18 : decode cX7_percent 18 = .ok (.lmul, 1) := by decide +kernel
theorem dX7_percent_19 : decode cX7_percent 19 = .ok (.ldc2_w 140, 3) := by decide +kernel
theorem dX7_percent_22 : decode cX7_percent 22 = .ok (.aload_n 0, 1) := by decide +kernel
theorem dX7_percent_23 : decode cX7_percent 23 = .ok (.getfield 57, 3) := by decide +kernel
theorem dX7_percent_26 : decode cX7_percent 26 = .ok (.lmul, 1) := by decide +kernel
theorem dX7_percent_27 : decode cX7_percent 27 = .ok (.invokestatic 173, 3) := by decide +kernel
theorem dX7_percent_30 : decode cX7_percent 30 = .ok (.l2i, 1) := by decide +kernel
theorem dX7_percent_31 : decode cX7_percent 31 = .ok (.ireturn, 1) := by decide +kernel
set_option maxRecDepth 20000 in
theorem ggX7_through_X7_noPower : GoodIn wsX7_through wsX7_noPower := goodIn_r _ [7, 8, 9, 10, 11, 12, 13, 14, 15, 16, 17, 18, 19, 20, 21, 22, 23, 24, 25, 26, 27, 28, 29, 30, 31, 32, 33, 34, 35, 36, 37, 38, 39, 40, 41] (by decide +kernel) (by decide +kernel)
set_option maxRecDepth 20000 in
theorem gX7_through_X7_noPower : GoodIn wsX7_through (wsV RX7 292 RX7 yX7_noPower wsX7_noPower) := goodIn_app (goodIn_of _ (by decide +kernel)) ggX7_through_X7_noPower
theorem dX7_through_0 : decode cX7_through 0 = .ok (.aload_n 0, 1) := by decide +kernel
theorem dX7_through_1 : decode cX7_through 1 = .ok (.invokevirtual 292, 3) := by decide +kernel
theorem dX7_through_4 : decode cX7_through 4 = .ok (.ifCond .eq 7, 3) := by decide +kernel
theorem dX7_through_7 : decode cX7_through 7 = .ok (.dconst 0, 1) := by decide +kernel
theorem dX7_through_8 : decode cX7_through 8 = .ok (.goto 12, 3) := by decide +kernel
theorem dX7_through_11 : decode cX7_through 11 = .ok (.aload_n 0, 1) := by decide +kernel
theorem dX7_through_12 : decode cX7_through 12 = .ok (.getfield 144, 3) := by decide +kernel
theorem dX7_through_15 : decode cX7_through 15 = .ok (.l2d, 1) := by decide +kernel
theorem dX7_through_16 : decode cX7_through 16 = .ok (.ldc2_w 99, 3) := by decide +kernel
theorem dX7_through_19 : decode cX7_through 19 = .ok (.ddiv, 1) := by decide +kernel
theorem dX7_through_20 : decode cX7_through 20 = .ok (.dreturn, 1) := by decide +kernel
set_option maxRecDepth 20000 in
theorem ggX7_allowed_X7_noPower : GoodIn wsX7_allowed wsX7_noPower := goodIn_r _ [8, 9, 10, 11, 12, 13, 14, 15, 16, 17, 18, 19, 20, 21, 22, 23, 24, 25, 26, 27, 28, 29, 30, 31, 32, 33, 34, 35, 36, 37, 38, 39, 40, 41, 42] (by decide +kernel) (by decide +kernel)
set_option maxRecDepth 20000 in
theorem gX7_allowed_X7_noPower : GoodIn wsX7_allowed (wsV RX7 292 RX7 yX7_noPower wsX7_noPower) := goodIn_app (goodIn_of _ (by decide +kernel)) ggX7_allowed_X7_noPower
theorem dX7_allowed_0 : decode cX7_allowed 0 = .ok (.aload_n 0, 1) := by decide +kernel
theorem dX7_allowed_1 : decode cX7_allowed 1 = .ok (.invokevirtual 292, 3) := by decide +kernel
theorem dX7_allowed_4 : decode cX7_allowed 4 = .ok (.ifCond .eq 7, 3) := by decide +kernel
theorem dX7_allowed_7 : decode cX7_allowed 7 = .ok (.dconst 0, 1) := by decide +kernel
theorem dX7_allowed_8 : decode cX7_allowed 8 = .ok (.goto 23, 3) := by decide +kernel
theorem dX7_allowed_11 : decode cX7_allowed 11 = .ok (.iload_n 1, 1) := by decide +kernel
theorem dX7_allowed_12 : decode cX7_allowed 12 = .ok (.ifCond .eq 10, 3) := by decide +kernel
theorem dX7_allowed_15 : decode cX7_allowed 15 = .ok (.aload_n 0, 1) := by decide +kernel
theorem dX7_allowed_16 : decode cX7_allowed 16 = .ok (.getfield 210, 3) := by decide +kernel
theorem dX7_allowed_19 : decode cX7_allowed 19 = .ok (.goto 7, 3) := by decide +kernel
theorem dX7_allowed_22 : decode cX7_allowed 22 = .ok (.aload_n 0, 1) := by decide +kernel
theorem dX7_allowed_23 : decode cX7_allowed 23 = .ok (.getfield 205, 3) := by decide +kernel
theorem dX7_allowed_26 : decode cX7_allowed 26 = .ok (.l2d, 1) := by decide +kernel
theorem dX7_allowed_27 : decode cX7_allowed 27 = .ok (.ldc2_w 295, 3) := by decide +kernel
theorem dX7_allowed_30 : decode cX7_allowed 30 = .ok (.ddiv, 1) := by decide +kernel
theorem dX7_allowed_31 : decode cX7_allowed 31 = .ok (.dreturn, 1) := by decide +kernel
theorem dX7_noChip_0 : decode cX7_noChip 0 = .ok (.aload_n 0, 1) := by decide +kernel
theorem dX7_noChip_1 : decode cX7_noChip 1 = .ok (.iload_n 1, 1) := by decide +kernel
theorem dX7_noChip_2 : decode cX7_noChip 2 = .ok (.ifCond .lt 11, 3) := by decide +kernel
theorem dX7_noChip_5 : decode cX7_noChip 5 = .ok (.iload_n 1, 1) := by decide +kernel
theorem dX7_noChip_6 : decode cX7_noChip 6 = .ok (.aload_n 0, 1) := by decide +kernel
theorem dX7_noChip_7 : decode cX7_noChip 7 = .ok (.getfield 49, 3) := by decide +kernel
theorem dX7_noChip_10 : decode cX7_noChip 10 = .ok (.if_icmp .lt 7, 3) := by decide +kernel
theorem dX7_noChip_13 : decode cX7_noChip 13 = .ok (.iconst 1, 1) := by decide +kernel
theorem dX7_noChip_14 : decode cX7_noChip 14 = .ok (.goto 15, 3) := by decide +kernel
theorem dX7_noChip_17 : decode cX7_noChip 17 = .ok (.aload_n 0, 1) := by decide +kernel
theorem dX7_noChip_18 : decode cX7_noChip 18 = .ok (.getfield 85, 3) := by decide +kernel
theorem dX7_noChip_21 : decode cX7_noChip 21 = .ok (.ifCond .eq 7, 3) := by decide +kernel
theorem dX7_noChip_24 : decode cX7_noChip 24 = .ok (.iconst 2, 1) := by decide +kernel
theorem dX7_noChip_25 : decode cX7_noChip 25 = .ok (.goto 4, 3) := by decide +kernel
theorem dX7_noChip_28 : decode cX7_noChip 28 = .ok (.iconst 0, 1) := by decide +kernel
theorem dX7_noChip_29 : decode cX7_noChip 29 = .ok (.putfield 70, 3) := by decide +kernel
theorem dX7_noChip_32 : decode cX7_noChip 32 = .ok (.aload_n 0, 1) := by decide +kernel
theorem dX7_noChip_33 : decode cX7_noChip 33 = .ok (.getfield 70, 3) := by decide +kernel
theorem dX7_noChip_36 : decode cX7_noChip 36 = .ok (.ifCond .le 7, 3) := by decide +kernel
theorem dX7_noChip_39 : decode cX7_noChip 39 = .ok (.iconst 1, 1) := by decide +kernel
theorem dX7_noChip_40 : decode cX7_noChip 40 = .ok (.goto 4, 3) := by decide +kernel
theorem dX7_noChip_43 : decode cX7_noChip 43 = .ok (.iconst 0, 1) := by decide +kernel
theorem dX7_noChip_44 : decode cX7_noChip 44 = .ok (.ireturn, 1) := by decide +kernel
set_option maxRecDepth 20000 in
theorem ggX7_valid_X7_isValid : GoodIn wsX7_valid wsX7_isValid := goodIn_r _ [8, 9, 10, 11, 12, 7, 13, 14, 15, 16, 17, 18, 19, 20, 21, 22, 23, 24, 25, 26, 27, 28, 29, 30, 31, 32, 33, 34, 35, 36, 37, 38, 39, 40, 41, 42, 43, 44, 45, 46, 47, 48, 49, 50, 51, 52, 53, 54, 55, 56, 57, 58] (by decide +kernel) (by decide +kernel)
set_option maxRecDepth 20000 in
theorem gX7_valid_X7_isValid : GoodIn wsX7_valid (wsV RX7 130 RX7 yX7_isValid wsX7_isValid) := goodIn_app (goodIn_of _ (by decide +kernel)) ggX7_valid_X7_isValid
theorem dX7_valid_0 : decode cX7_valid 0 = .ok (.aload_n 0, 1) := by decide +kernel
theorem dX7_valid_1 : decode cX7_valid 1 = .ok (.iload_n 1, 1) := by decide +kernel
theorem dX7_valid_2 : decode cX7_valid 2 = .ok (.ifCond .lt 21, 3) := by decide +kernel
theorem dX7_valid_5 : decode cX7_valid 5 = .ok (.iload_n 1, 1) := by decide +kernel
theorem dX7_valid_6 : decode cX7_valid 6 = .ok (.aload_n 0, 1) := by decide +kernel
theorem dX7_valid_7 : decode cX7_valid 7 = .ok (.getfield 49, 3) := by decide +kernel
theorem dX7_valid_10 : decode cX7_valid 10 = .ok (.if_icmp .ge 13, 3) := by decide +kernel
theorem dX7_valid_13 : decode cX7_valid 13 = .ok (.iload_n 2, 1) := by decide +kernel
theorem dX7_valid_14 : decode cX7_valid 14 = .ok (.ifCond .lt 9, 3) := by decide +kernel
theorem dX7_valid_17 : decode cX7_valid 17 = .ok (.iload_n 2, 1) := by decide +kernel
theorem dX7_valid_18 : decode cX7_valid 18 = .ok (.bipush 6, 2) := by decide +kernel
theorem dX7_valid_20 : decode cX7_valid 20 = .ok (.if_icmp .lt 7, 3) := by decide +kernel
theorem dX7_valid_23 : decode cX7_valid 23 = .ok (.iconst 1, 1) := by decide +kernel
theorem dX7_valid_24 : decode cX7_valid 24 = .ok (.goto 15, 3) := by decide +kernel
theorem dX7_valid_27 : decode cX7_valid 27 = .ok (.aload_n 0, 1) := by decide +kernel
theorem dX7_valid_28 : decode cX7_valid 28 = .ok (.getfield 85, 3) := by decide +kernel
theorem dX7_valid_31 : decode cX7_valid 31 = .ok (.ifCond .eq 7, 3) := by decide +kernel
theorem dX7_valid_34 : decode cX7_valid 34 = .ok (.iconst 2, 1) := by decide +kernel
theorem dX7_valid_35 : decode cX7_valid 35 = .ok (.goto 4, 3) := by decide +kernel
theorem dX7_valid_38 : decode cX7_valid 38 = .ok (.iconst 0, 1) := by decide +kernel
theorem dX7_valid_39 : decode cX7_valid 39 = .ok (.putfield 70, 3) := by decide +kernel
theorem dX7_valid_42 : decode cX7_valid 42 = .ok (.aload_n 0, 1) := by decide +kernel
theorem dX7_valid_43 : decode cX7_valid 43 = .ok (.getfield 70, 3) := by decide +kernel
theorem dX7_valid_46 : decode cX7_valid 46 = .ok (.ifCond .ne 16, 3) := by decide +kernel
theorem dX7_valid_49 : decode cX7_valid 49 = .ok (.aload_n 0, 1) := by decide +kernel
theorem dX7_valid_50 : decode cX7_valid 50 = .ok (.iload_n 1, 1) := by decide +kernel
theorem dX7_valid_51 : decode cX7_valid 51 = .ok (.iload_n 2, 1) := by decide +kernel
theorem dX7_valid_52 : decode cX7_valid 52 = .ok (.invokevirtual 130, 3) := by decide +kernel
theorem dX7_valid_55 : decode cX7_valid 55 = .ok (.ifCond .eq 7, 3) := by decide +kernel
theorem dX7_valid_58 : decode cX7_valid 58 = .ok (.iconst 1, 1) := by decide +kernel
theorem dX7_valid_59 : decode cX7_valid 59 = .ok (.goto 4, 3) := by decide +kernel
theorem dX7_valid_62 : decode cX7_valid 62 = .ok (.iconst 0, 1) := by decide +kernel
theorem dX7_valid_63 : decode cX7_valid 63 = .ok (.ireturn, 1) := by decide +kernel
set_option maxRecDepth 20000 in
theorem ggX7_bleeding_X7_noChip : GoodIn wsX7_bleeding wsX7_noChip := goodIn_r _ [6, 7, 8, 9, 10, 11, 12, 13, 14, 15, 16, 17, 18, 19, 20, 21, 22, 23, 24, 25, 26, 27, 28, 29, 30, 31, 32, 33, 34, 35, 36, 37, 38, 39, 40, 41] (by decide +kernel) (by decide +kernel)
set_option maxRecDepth 20000 in
theorem gX7_bleeding_X7_noChip : GoodIn wsX7_bleeding (wsV RX7 297 RX7 yX7_noChip wsX7_noChip) := goodIn_app (goodIn_of _ (by decide +kernel)) ggX7_bleeding_X7_noChip
theorem dX7_bleeding_0 : decode cX7_bleeding 0 = .ok (.aload_n 0, 1) := by decide +kernel
theorem dX7_bleeding_1 : decode cX7_bleeding 1 = .ok (.iload_n 1, 1) := by decide +kernel
theorem dX7_bleeding_2 : decode cX7_bleeding 2 = .ok (.invokevirtual 297, 3) := by decide +kernel
theorem dX7_bleeding_5 : decode cX7_bleeding 5 = .ok (.ifCond .eq 7, 3) := by decide +kernel
theorem dX7_bleeding_8 : decode cX7_bleeding 8 = .ok (.iconst 0, 1) := by decide +kernel
theorem dX7_bleeding_9 : decode cX7_bleeding 9 = .ok (.goto 9, 3) := by decide +kernel
theorem dX7_bleeding_12 : decode cX7_bleeding 12 = .ok (.aload_n 0, 1) := by decide +kernel
theorem dX7_bleeding_13 : decode cX7_bleeding 13 = .ok (.getfield 38, 3) := by decide +kernel
theorem dX7_bleeding_16 : decode cX7_bleeding 16 = .ok (.iload_n 1, 1) := by decide +kernel
theorem dX7_bleeding_17 : decode cX7_bleeding 17 = .ok (.iaload, 1) := by decide +kernel
theorem dX7_bleeding_18 : decode cX7_bleeding 18 = .ok (.ireturn, 1) := by decide +kernel
set_option maxRecDepth 20000 in
theorem ggX7_faults_X7_noPower : GoodIn wsX7_faults wsX7_noPower := goodIn_r _ [6, 7, 8, 9, 10, 11, 12, 13, 14, 15, 16, 17, 18, 19, 20, 21, 22, 23, 24, 25, 26, 27, 28, 29, 30, 31, 32, 33, 34, 35, 36, 37, 38, 39, 40] (by decide +kernel) (by decide +kernel)
set_option maxRecDepth 20000 in
theorem gX7_faults_X7_noPower : GoodIn wsX7_faults (wsV RX7 292 RX7 yX7_noPower wsX7_noPower) := goodIn_app (goodIn_of _ (by decide +kernel)) ggX7_faults_X7_noPower
theorem dX7_faults_0 : decode cX7_faults 0 = .ok (.aload_n 0, 1) := by decide +kernel
theorem dX7_faults_1 : decode cX7_faults 1 = .ok (.invokevirtual 292, 3) := by decide +kernel
theorem dX7_faults_4 : decode cX7_faults 4 = .ok (.ifCond .eq 7, 3) := by decide +kernel
theorem dX7_faults_7 : decode cX7_faults 7 = .ok (.iconst 0, 1) := by decide +kernel
theorem dX7_faults_8 : decode cX7_faults 8 = .ok (.goto 7, 3) := by decide +kernel
theorem dX7_faults_11 : decode cX7_faults 11 = .ok (.aload_n 0, 1) := by decide +kernel
theorem dX7_faults_12 : decode cX7_faults 12 = .ok (.getfield 224, 3) := by decide +kernel
theorem dX7_faults_15 : decode cX7_faults 15 = .ok (.ireturn, 1) := by decide +kernel
theorem dX7_count_0 : decode cX7_count 0 = .ok (.aload_n 0, 1) := by decide +kernel
theorem dX7_count_1 : decode cX7_count 1 = .ok (.iload_n 1, 1) := by decide +kernel
theorem dX7_count_2 : decode cX7_count 2 = .ok (.ifCond .lt 9, 3) := by decide +kernel
theorem dX7_count_5 : decode cX7_count 5 = .ok (.iload_n 1, 1) := by decide +kernel
theorem dX7_count_6 : decode cX7_count 6 = .ok (.bipush 6, 2) := by decide +kernel
theorem dX7_count_8 : decode cX7_count 8 = .ok (.if_icmp .le 7, 3) := by decide +kernel
theorem dX7_count_11 : decode cX7_count 11 = .ok (.iconst 1, 1) := by decide +kernel
theorem dX7_count_12 : decode cX7_count 12 = .ok (.goto 15, 3) := by decide +kernel
theorem dX7_count_15 : decode cX7_count 15 = .ok (.aload_n 0, 1) := by decide +kernel
theorem dX7_count_16 : decode cX7_count 16 = .ok (.getfield 85, 3) := by decide +kernel
theorem dX7_count_19 : decode cX7_count 19 = .ok (.ifCond .eq 7, 3) := by decide +kernel
theorem dX7_count_22 : decode cX7_count 22 = .ok (.iconst 2, 1) := by decide +kernel
theorem dX7_count_23 : decode cX7_count 23 = .ok (.goto 4, 3) := by decide +kernel
theorem dX7_count_26 : decode cX7_count 26 = .ok (.iconst 0, 1) := by decide +kernel
theorem dX7_count_27 : decode cX7_count 27 = .ok (.putfield 70, 3) := by decide +kernel
theorem dX7_count_30 : decode cX7_count 30 = .ok (.aload_n 0, 1) := by decide +kernel
theorem dX7_count_31 : decode cX7_count 31 = .ok (.getfield 70, 3) := by decide +kernel
theorem dX7_count_34 : decode cX7_count 34 = .ok (.ifCond .le 7, 3) := by decide +kernel
theorem dX7_count_37 : decode cX7_count 37 = .ok (.iconst 0, 1) := by decide +kernel
theorem dX7_count_38 : decode cX7_count 38 = .ok (.goto 9, 3) := by decide +kernel
theorem dX7_count_41 : decode cX7_count 41 = .ok (.aload_n 0, 1) := by decide +kernel
theorem dX7_count_42 : decode cX7_count 42 = .ok (.getfield 35, 3) := by decide +kernel
theorem dX7_count_45 : decode cX7_count 45 = .ok (.iload_n 1, 1) := by decide +kernel
theorem dX7_count_46 : decode cX7_count 46 = .ok (.iaload, 1) := by decide +kernel
theorem dX7_count_47 : decode cX7_count 47 = .ok (.ireturn, 1) := by decide +kernel
theorem dX7_journal_0 : decode cX7_journal 0 = .ok (.aload_n 0, 1) := by decide +kernel
theorem dX7_journal_1 : decode cX7_journal 1 = .ok (.iload_n 1, 1) := by decide +kernel
theorem dX7_journal_2 : decode cX7_journal 2 = .ok (.ifCond .lt 14, 3) := by decide +kernel
theorem dX7_journal_5 : decode cX7_journal 5 = .ok (.iload_n 1, 1) := by decide +kernel
theorem dX7_journal_6 : decode cX7_journal 6 = .ok (.bipush 32, 2) := by decide +kernel
theorem dX7_journal_8 : decode cX7_journal 8 = .ok (.aload_n 0, 1) := by decide +kernel
theorem dX7_journal_9 : decode cX7_journal 9 = .ok (.getfield 52, 3) := by decide +kernel
theorem dX7_journal_12 : decode cX7_journal 12 = .ok (.imul, 1) := by decide +kernel
theorem dX7_journal_13 : decode cX7_journal 13 = .ok (.if_icmp .lt 7, 3) := by decide +kernel
theorem dX7_journal_16 : decode cX7_journal 16 = .ok (.iconst 1, 1) := by decide +kernel
theorem dX7_journal_17 : decode cX7_journal 17 = .ok (.goto 4, 3) := by decide +kernel
theorem dX7_journal_20 : decode cX7_journal 20 = .ok (.iconst 0, 1) := by decide +kernel
theorem dX7_journal_21 : decode cX7_journal 21 = .ok (.putfield 70, 3) := by decide +kernel
theorem dX7_journal_24 : decode cX7_journal 24 = .ok (.aload_n 0, 1) := by decide +kernel
theorem dX7_journal_25 : decode cX7_journal 25 = .ok (.getfield 70, 3) := by decide +kernel
theorem dX7_journal_28 : decode cX7_journal 28 = .ok (.ifCond .le 7, 3) := by decide +kernel
theorem dX7_journal_31 : decode cX7_journal 31 = .ok (.iconst 0, 1) := by decide +kernel
theorem dX7_journal_32 : decode cX7_journal 32 = .ok (.goto 9, 3) := by decide +kernel
theorem dX7_journal_35 : decode cX7_journal 35 = .ok (.aload_n 0, 1) := by decide +kernel
theorem dX7_journal_36 : decode cX7_journal 36 = .ok (.getfield 7, 3) := by decide +kernel
theorem dX7_journal_39 : decode cX7_journal 39 = .ok (.iload_n 1, 1) := by decide +kernel
theorem dX7_journal_40 : decode cX7_journal 40 = .ok (.iaload, 1) := by decide +kernel
theorem dX7_journal_41 : decode cX7_journal 41 = .ok (.ireturn, 1) := by decide +kernel
theorem dX7_spoil_0 : decode cX7_spoil 0 = .ok (.aload_n 0, 1) := by decide +kernel
theorem dX7_spoil_1 : decode cX7_spoil 1 = .ok (.iload_n 1, 1) := by decide +kernel
theorem dX7_spoil_2 : decode cX7_spoil 2 = .ok (.ifCond .lt 14, 3) := by decide +kernel
theorem dX7_spoil_5 : decode cX7_spoil 5 = .ok (.iload_n 1, 1) := by decide +kernel
theorem dX7_spoil_6 : decode cX7_spoil 6 = .ok (.bipush 32, 2) := by decide +kernel
theorem dX7_spoil_8 : decode cX7_spoil 8 = .ok (.aload_n 0, 1) := by decide +kernel
theorem dX7_spoil_9 : decode cX7_spoil 9 = .ok (.getfield 52, 3) := by decide +kernel
theorem dX7_spoil_12 : decode cX7_spoil 12 = .ok (.imul, 1) := by decide +kernel
theorem dX7_spoil_13 : decode cX7_spoil 13 = .ok (.if_icmp .lt 7, 3) := by decide +kernel
theorem dX7_spoil_16 : decode cX7_spoil 16 = .ok (.iconst 1, 1) := by decide +kernel
theorem dX7_spoil_17 : decode cX7_spoil 17 = .ok (.goto 19, 3) := by decide +kernel
theorem dX7_spoil_20 : decode cX7_spoil 20 = .ok (.iload_n 2, 1) := by decide +kernel
theorem dX7_spoil_21 : decode cX7_spoil 21 = .ok (.ifCond .lt 10, 3) := by decide +kernel
theorem dX7_spoil_24 : decode cX7_spoil 24 = .ok (.iload_n 2, 1) := by decide +kernel
theorem dX7_spoil_25 : decode cX7_spoil 25 = .ok (.sipush 255, 3) := by decide +kernel
theorem dX7_spoil_28 : decode cX7_spoil 28 = .ok (.if_icmp .le 7, 3) := by decide +kernel
theorem dX7_spoil_31 : decode cX7_spoil 31 = .ok (.iconst 2, 1) := by decide +kernel
theorem dX7_spoil_32 : decode cX7_spoil 32 = .ok (.goto 4, 3) := by decide +kernel
theorem dX7_spoil_35 : decode cX7_spoil 35 = .ok (.iconst 0, 1) := by decide +kernel
theorem dX7_spoil_36 : decode cX7_spoil 36 = .ok (.putfield 70, 3) := by decide +kernel
theorem dX7_spoil_39 : decode cX7_spoil 39 = .ok (.aload_n 0, 1) := by decide +kernel
theorem dX7_spoil_40 : decode cX7_spoil 40 = .ok (.getfield 70, 3) := by decide +kernel
theorem dX7_spoil_43 : decode cX7_spoil 43 = .ok (.ifCond .ne 17, 3) := by decide +kernel
theorem dX7_spoil_46 : decode cX7_spoil 46 = .ok (.aload_n 0, 1) := by decide +kernel
theorem dX7_spoil_47 : decode cX7_spoil 47 = .ok (.getfield 7, 3) := by decide +kernel
theorem dX7_spoil_50 : decode cX7_spoil 50 = .ok (.iload_n 1, 1) := by decide +kernel
theorem dX7_spoil_51 : decode cX7_spoil 51 = .ok (.aload_n 0, 1) := by decide +kernel
theorem dX7_spoil_52 : decode cX7_spoil 52 = .ok (.getfield 7, 3) := by decide +kernel
theorem dX7_spoil_55 : decode cX7_spoil 55 = .ok (.iload_n 1, 1) := by decide +kernel
theorem dX7_spoil_56 : decode cX7_spoil 56 = .ok (.iaload, 1) := by decide +kernel
theorem dX7_spoil_57 : decode cX7_spoil 57 = .ok (.iload_n 2, 1) := by decide +kernel
theorem dX7_spoil_58 : decode cX7_spoil 58 = .ok (.ixor, 1) := by decide +kernel
theorem dX7_spoil_59 : decode cX7_spoil 59 = .ok (.iastore, 1) := by decide +kernel
theorem dX7_spoil_60 : decode cX7_spoil 60 = .ok (.return_, 1) := by decide +kernel
end
section
/-! THE WORLD: every object and array of the class and of the reference has a family (a number) and, within it, a number; its contents stand in three tables (ints, longs, doubles) by family, number, place. References never change once all is made. -/
abbrev ck_S : Type := (Nat → Nat → Nat → Int32) × (Nat → Nat → Nat → Int64) × (Nat → Nat → Nat → UInt64)
def ck_up {α : Type} (g : Nat → Nat → Nat → α) (f i k : Nat) (v : α) : Nat → Nat → Nat → α := fun a b c => if a = f ∧ b = i ∧ c = k then v else g a b c
abbrev ck_gi (σ : ck_S) (f i k : Nat) : Int32 := σ.1 f i k
abbrev ck_gj (σ : ck_S) (f i k : Nat) : Int64 := σ.2.1 f i k
abbrev ck_gd (σ : ck_S) (f i k : Nat) : UInt64 := σ.2.2 f i k
def ck_ui (σ : ck_S) (f i k : Nat) (v : Int32) : ck_S := (ck_up σ.1 f i k v, σ.2)
def ck_uj (σ : ck_S) (f i k : Nat) (v : Int64) : ck_S := (σ.1, ck_up σ.2.1 f i k v, σ.2.2)
def ck_ud (σ : ck_S) (f i k : Nat) (v : UInt64) : ck_S := (σ.1, σ.2.1, ck_up σ.2.2 f i k v)
/-- classes and slots; the array classes of byte, double, int, long, Chip; how many chips, how long the journal; the addresses; what is there -/
abbrev ck_G : Type := va_G × (ClassId × ClassId × ClassId × ClassId × ClassId) × (Nat × Nat) × (Nat → Nat → Nat) × List (Nat × Nat)
abbrev ck_D (G : ck_G) : va_G := G.1
abbrev ck_cB (G : ck_G) : ClassId := G.2.1.1
abbrev ck_cD (G : ck_G) : ClassId := G.2.1.2.1
abbrev ck_cI (G : ck_G) : ClassId := G.2.1.2.2.1
abbrev ck_cJ (G : ck_G) : ClassId := G.2.1.2.2.2.1
abbrev ck_cO (G : ck_G) : ClassId := G.2.1.2.2.2.2
abbrev ck_nc (G : ck_G) : Nat := G.2.2.1.1
abbrev ck_nb (G : ck_G) : Nat := G.2.2.1.2
abbrev ck_ad (G : ck_G) : Nat → Nat → Nat := G.2.2.2.1
abbrev ck_Ls (G : ck_G) : List (Nat × Nat) := G.2.2.2.2
def ck_ty (G : ck_G) : List (ClassId × FieldType) := [(ck_cB G, .byte), (ck_cD G, .double), (ck_cI G, .int), (ck_cJ G, .long), (ck_cO G, .object RX3)]
/-- what lies at a family and number -/
def ck_C (G : ck_G) (f i : Nat) (I : Nat → Int32) (J : Nat → Int64) (D : Nat → UInt64) : va_E := match f with
  | 0 => .inr (5, [.ref (ck_ad G 1 0), .int (I 1), .int (I 2), .ref (ck_ad G 2 0), .ref (ck_ad G 3 0), .ref (ck_ad G 5 0), .ref (ck_ad G 6 0), .int (I 7), .int (I 8), .double (D 9), .double (D 10), .int (I 11), .double (D 12), .int (I 13), .int (I 14), .double (D 15), .double (D 16)])
  | 1 => .inl (ck_cO G, ck_nc G, .inr (.inr (.inr (.inr (fun k => some (ck_ad G 30 k))))))
  | 2 => .inr (4, [.int (I 0), .int (I 1), .int (I 2), .int (I 3), .int (I 4), .double (D 5), .double (D 6)])
  | 3 => .inr (0, [.int (I 0), .ref (ck_ad G 4 0), .int (I 2), .int (I 3)])
  | 4 => .inl (ck_cI G, 7, .inl I)
  | 5 => .inr (3, [.int (I 0), .int (I 1)])
  | 6 => .inr (1, [.int (I 0), .ref (ck_ad G 7 0), .ref (ck_ad G 8 0), .int (I 3), .int (I 4)])
  | 7 => .inl (ck_cB G, ck_nb G, .inl I)
  | 8 => .inl (ck_cB G, 32, .inl I)
  | 10 => .inr (6, [.int (I 0), .int (I 1), .int (I 2), .long (J 3), .int (I 4), .int (I 5), .ref (ck_ad G 11 0), .ref (ck_ad G 12 0), .int (I 8), .int (I 9), .int (I 10), .long (J 11), .long (J 12), .long (J 13), .ref (ck_ad G 13 0), .int (I 15), .int (I 16), .int (I 17), .ref (ck_ad G 14 0), .ref (ck_ad G 15 0), .ref (ck_ad G 16 0), .ref (ck_ad G 17 0), .ref (ck_ad G 18 0), .long (J 23), .long (J 24), .ref (ck_ad G 19 0), .int (I 26), .int (I 27), .int (I 28), .int (I 29), .ref (ck_ad G 20 0), .int (I 31)])
  | 11 => .inl (ck_cI G, 512, .inl I)
  | 12 => .inl (ck_cI G, 32, .inl I)
  | 13 => .inl (ck_cJ G, 4, .inr (.inl J))
  | 14 => .inl (ck_cI G, 192, .inl I)
  | 15 => .inl (ck_cJ G, 32, .inr (.inl J))
  | 16 => .inl (ck_cI G, 4, .inl I)
  | 17 => .inl (ck_cI G, 4, .inl I)
  | 18 => .inl (ck_cI G, 4, .inl I)
  | 19 => .inl (ck_cI G, 7, .inl I)
  | 20 => .inl (ck_cI G, 4, .inl I)
  | 21 => .inl (ck_cJ G, 1, .inr (.inl J))
  | 22 => .inl (ck_cD G, 1, .inr (.inr (.inr (.inl D))))
  | 30 => .inr (2, [.ref (ck_ad G 31 i), .ref (ck_ad G 32 i), .ref (ck_ad G 33 i), .int (I 3), .int (I 4), .int (I 5), .double (D 6), .int (I 7)])
  | 31 => .inl (ck_cI G, 6, .inl I)
  | 32 => .inl (ck_cI G, 6, .inl I)
  | 33 => .inl (ck_cD G, 8, .inr (.inr (.inr (.inl D))))
  | _ => .inl (ck_cI G, 0, .inl I)
abbrev ck_V (G : ck_G) (σ : ck_S) (f i : Nat) : va_E := ck_C G f i (σ.1 f i) (σ.2.1 f i) (σ.2.2 f i)
def ck_W (G : ck_G) (σ : ck_S) : va_W := (ck_Ls G).map (fun z => (ck_ad G z.1 z.2, ck_V G σ z.1 z.2))
def ck_A (G : ck_G) (sz : Nat) : Nat → Prop := fun q => (∃ z, z ∈ ck_Ls G ∧ q = ck_ad G z.1 z.2) ∨ sz ≤ q
/-- the world in the heap H, since the method began at s -/
def ck_H (G : ck_G) (s : State) (H : Heap) (locs : List Loc) (σ : ck_S) : Prop := va_K (ck_D G) vwCl (ck_ty G) s ∧ va_P (ck_D G) vwCl (ck_W G σ) H ∧ va_D (ck_A G s.heap.size) (ck_W G σ) ∧ va_S (ck_A G s.heap.size) s.heap H locs
/-- the class's own things are there -/
def ck_inC (G : ck_G) : Prop := (∀ f, f ≤ 8 → (f, 0) ∈ ck_Ls G) ∧ ∀ f i, 30 ≤ f → f ≤ 33 → i < ck_nc G → (f, i) ∈ ck_Ls G
/-- the reference's -/
def ck_inM (G : ck_G) : Prop := ∀ f, 10 ≤ f → f ≤ 20 → (f, 0) ∈ ck_Ls G
def ck_b (v : Int32) : Prop := v = 0 ∨ v = 1
theorem ck_b_n {v : Int32} (h : ck_b v) : narrow .boolean (.int v) = .int v := by rcases h with rfl | rfl <;> rfl
theorem ck_b_f {v : Int32} (h : ck_b v) : fits .boolean (.int v) = true := by rcases h with rfl | rfl <;> decide
theorem ck_up_self {α : Type} (g : Nat → Nat → Nat → α) (f i k : Nat) (v : α) : ck_up g f i k v f i = va_up (g f i) k v := by
  funext c
  simp [ck_up, va_up]
theorem ck_up_ne {α : Type} (g : Nat → Nat → Nat → α) {f i a b : Nat} (k : Nat) (v : α) (h : (a, b) ≠ (f, i)) : ck_up g f i k v a b = g a b := by
  funext c
  have : ¬ (a = f ∧ b = i ∧ c = k) := fun q => h (by rw [q.1, q.2.1])
  simp [ck_up, this]
theorem ck_pos {G : ck_G} {σ : ck_S} {f i : Nat} (h : (f, i) ∈ ck_Ls G) : ∃ k : Nat, (ck_Ls G)[k]? = some (f, i) ∧ (ck_W G σ)[k]? = some (ck_ad G f i, ck_V G σ f i) := by
  obtain ⟨k, hk⟩ := List.mem_iff_getElem?.mp h
  exact ⟨k, hk, by simp [ck_W, hk]⟩
theorem ck_set {G : ck_G} {σ τ : ck_S} {A : Nat → Prop} {f i k : Nat} {e : va_E} (hD : va_D A (ck_W G σ)) (hk : (ck_Ls G)[k]? = some (f, i)) (he : ck_V G τ f i = e) (ho : ∀ a b, (a, b) ≠ (f, i) → ck_V G τ a b = ck_V G σ a b) : (ck_W G σ).set k (ck_ad G f i, e) = ck_W G τ := by
  apply List.ext_getElem?
  intro j
  by_cases hj : j = k
  · subst hj
    have hl : j < (ck_Ls G).length := (List.getElem?_eq_some_iff.mp hk).1
    have hl2 : j < (ck_W G σ).length := by simp [ck_W]; exact hl
    rw [List.getElem?_set_self hl2]
    simp [ck_W, hk, he]
  · rw [List.getElem?_set_ne (fun q => hj q.symm)]
    simp only [ck_W, List.getElem?_map]
    cases hz : (ck_Ls G)[j]? with
    | none => rfl
    | some z =>
      obtain ⟨a, b⟩ := z
      have hne : (a, b) ≠ (f, i) := by
        intro q
        apply hj
        refine hD.1 j k (ck_ad G a b, ck_V G σ a b) (ck_ad G f i, ck_V G σ f i) (by simp [ck_W, hz]) (by simp [ck_W, hk]) ?_
        cases q
        rfl
      simp [ho a b hne]
theorem ck_addr {G : ck_G} {σ τ : ck_S} {A : Nat → Prop} (h : va_D A (ck_W G σ)) : va_D A (ck_W G τ) := by
  have key : ∀ (j : Nat) (q : Nat × va_E), (ck_W G τ)[j]? = some q → ∃ q', (ck_W G σ)[j]? = some q' ∧ q'.1 = q.1 := by
    intro j q hq
    simp only [ck_W, List.getElem?_map] at hq ⊢
    cases hz : (ck_Ls G)[j]? with
    | none => rw [hz] at hq; simp at hq
    | some z =>
      rw [hz] at hq
      simp at hq
      refine ⟨_, rfl, ?_⟩
      rw [← hq]
  refine ⟨fun i j p q hp hq hpq => ?_, fun k q hq => ?_⟩
  · obtain ⟨p', hp', ep⟩ := key i p hp
    obtain ⟨q', hq', eq⟩ := key j q hq
    exact h.1 i j p' q' hp' hq' (by rw [ep, eq, hpq])
  · obtain ⟨q', hq', eq⟩ := key k q hq
    rw [← eq]
    exact h.2 k q' hq'
theorem ck_self {G : ck_G} {σ : ck_S} {A : Nat → Prop} (sz : Nat) (h : va_D A (ck_W G σ)) : va_D (ck_A G sz) (ck_W G σ) := by
  refine ⟨h.1, fun k q hq => ?_⟩
  simp only [ck_W, List.getElem?_map] at hq
  cases hz : (ck_Ls G)[k]? with
  | none => rw [hz] at hq; simp at hq
  | some z =>
    rw [hz] at hq
    simp at hq
    rw [← hq]
    exact Or.inl ⟨z, List.mem_of_getElem? hz, rfl⟩
theorem ck_grow {G : ck_G} {σ : ck_S} {s : State} {H : Heap} {locs : List Loc} (hw : ck_H G s H locs σ) : ∀ q, ck_A G H.size q → ck_A G s.heap.size q := by
  intro q hq
  rcases hq with h | h
  · exact Or.inl h
  · exact Or.inr (Nat.le_trans hw.2.2.2.1 h)
section CKR
variable {p : Program} {l : Launch} {e : Env} {R : Room} {s : State} {m : MethodId} {args : Array Value} {below : List Frame} {meth : Method} {c : Code} {H : Heap} {locs : List Loc} {cells slots : Nat} {Q : State → Prop}
variable {cc : ByteArray} {pc : Nat} {ls : Array Slot} {rest : List Value} {G : ck_G} {σ : ck_S} {f i : Nat}
theorem ck_get (hexec : p.tables.exec = Jvm.exec) (hb : c.code = cc) {own C : String} {T : u_T} {N ci index : Nat} {Ts : List Cond} (hts : ∀ w ∈ Ts, w.before args s = true) (hin : ∀ w ∈ u_ws C T N, w ∈ Ts) (hown : s.vm.findClass own = some m.cls) (hw : ck_H G s H locs σ) (hm : (f, i) ∈ ck_Ls G) {fs : List Value} (he : ck_V G σ f i = .inr (ci, fs)) (hc : vwCl[ci]? = some (C, T, N)) (k : Nat) (hk : k < N) (hlink : (Cond.fieldLink own index (T k).1 (T k).2.1 (T k).2.2.1).before args s = true) {v : Value} (hv : fs[k]? = some v) (hdg : decode cc pc = .ok (.getfield index, 3))
    (kk : W p l e R s m args below meth c H locs cells slots Q (F0 m (pc + 3) ls (v :: rest))) : W p l e R s m args below meth c H locs cells slots Q (F0 m pc ls (.ref (ck_ad G f i) :: rest)) := by
  obtain ⟨q, -, hq⟩ := ck_pos (σ := σ) hm
  rw [he] at hq
  exact va_get hexec hb hts hin hown hw.1 hw.2.1 q hq hc k hk hlink (fun _ h => h) hv hdg kk
theorem ck_put0 (hexec : p.tables.exec = Jvm.exec) (hb : c.code = cc) {own C : String} {T : u_T} {N ci index : Nat} {Ts : List Cond} (hts : ∀ w ∈ Ts, w.before args s = true) (hin : ∀ w ∈ u_ws C T N, w ∈ Ts) (ty0 : Nat → FieldType) (hty : ∀ k, k < N → parseFieldDescriptor (T k).2.2.1 = some (ty0 k)) (hnm : ∀ a, a < N → ∀ b, b < N → a ≠ b → (T a).2.1 ≠ (T b).2.1) (hown : s.vm.findClass own = some m.cls) (hw : ck_H G s H locs σ) (hm : (f, i) ∈ ck_Ls G) {fs : List Value} (he : ck_V G σ f i = .inr (ci, fs)) (hc : vwCl[ci]? = some (C, T, N)) (k : Nat) (hk : k < N) (hlink : (Cond.fieldLink own index (T k).1 (T k).2.1 (T k).2.2.1).before args s = true) (hfin : (T k).2.2.2 = false) {v : Value} (hn : narrow (ty0 k) v = v) (hfit : fits (ty0 k) v = true) (hl : k < fs.length) {τ : ck_S} (hset : ck_V G τ f i = .inr (ci, fs.set k v)) (ho : ∀ a b, (a, b) ≠ (f, i) → ck_V G τ a b = ck_V G σ a b) (hdg : decode cc pc = .ok (.putfield index, 3))
    (kk : ∀ (H1 : Heap) (locs1 : List Loc), ck_H G s H1 locs1 τ → W p l e R s m args below meth c H1 locs1 cells slots Q (F0 m (pc + 3) ls rest)) : W p l e R s m args below meth c H locs cells slots Q (F0 m pc ls (v :: .ref (ck_ad G f i) :: rest)) := by
  obtain ⟨q, hq0, hq⟩ := ck_pos (σ := σ) hm
  rw [he] at hq
  refine va_put hexec hb hts hin ty0 hty hnm hown hw.1 hw.2.1 hw.2.2.1 hw.2.2.2 q hq hc k hk hlink (fun _ h => h) hfin (hty k hk) hn hfit hl hdg (fun H1 locs1 hP hD hS => ?_)
  rw [ck_set hw.2.2.1 hq0 hset ho] at hP hD
  exact kk H1 locs1 ⟨hw.1, hP, hD, hS⟩
theorem ck_puti (hexec : p.tables.exec = Jvm.exec) (hb : c.code = cc) {own C : String} {T : u_T} {N ci index : Nat} {Ts : List Cond} (hts : ∀ w ∈ Ts, w.before args s = true) (hin : ∀ w ∈ u_ws C T N, w ∈ Ts) (ty0 : Nat → FieldType) (hty : ∀ k, k < N → parseFieldDescriptor (T k).2.2.1 = some (ty0 k)) (hnm : ∀ a, a < N → ∀ b, b < N → a ≠ b → (T a).2.1 ≠ (T b).2.1) (hown : s.vm.findClass own = some m.cls) (hw : ck_H G s H locs σ) (hm : (f, i) ∈ ck_Ls G) {fs : List Value} (he : ck_V G σ f i = .inr (ci, fs)) (hc : vwCl[ci]? = some (C, T, N)) (k : Nat) (hk : k < N) (hlink : (Cond.fieldLink own index (T k).1 (T k).2.1 (T k).2.2.1).before args s = true) (hfin : (T k).2.2.2 = false) {v : Int32} (hn : narrow (ty0 k) (.int v) = .int v) (hfit : fits (ty0 k) (.int v) = true) (hl : k < fs.length) (hset : ck_C G f i (va_up (σ.1 f i) k v) (σ.2.1 f i) (σ.2.2 f i) = .inr (ci, fs.set k (.int v))) (hdg : decode cc pc = .ok (.putfield index, 3))
    (kk : ∀ (H1 : Heap) (locs1 : List Loc), ck_H G s H1 locs1 (ck_ui σ f i k v) → W p l e R s m args below meth c H1 locs1 cells slots Q (F0 m (pc + 3) ls rest)) : W p l e R s m args below meth c H locs cells slots Q (F0 m pc ls (.int v :: .ref (ck_ad G f i) :: rest)) := by
  refine ck_put0 hexec hb hts hin ty0 hty hnm hown hw hm he hc k hk hlink hfin hn hfit hl (τ := ck_ui σ f i k v) ?_ ?_ hdg kk
  · show ck_C G f i (ck_up σ.1 f i k v f i) (σ.2.1 f i) (σ.2.2 f i) = _
    rw [ck_up_self]; exact hset
  · intro a b h
    show ck_C G a b (ck_up σ.1 f i k v a b) (σ.2.1 a b) (σ.2.2 a b) = _
    rw [ck_up_ne _ _ _ h]
theorem ck_putj (hexec : p.tables.exec = Jvm.exec) (hb : c.code = cc) {own C : String} {T : u_T} {N ci index : Nat} {Ts : List Cond} (hts : ∀ w ∈ Ts, w.before args s = true) (hin : ∀ w ∈ u_ws C T N, w ∈ Ts) (ty0 : Nat → FieldType) (hty : ∀ k, k < N → parseFieldDescriptor (T k).2.2.1 = some (ty0 k)) (hnm : ∀ a, a < N → ∀ b, b < N → a ≠ b → (T a).2.1 ≠ (T b).2.1) (hown : s.vm.findClass own = some m.cls) (hw : ck_H G s H locs σ) (hm : (f, i) ∈ ck_Ls G) {fs : List Value} (he : ck_V G σ f i = .inr (ci, fs)) (hc : vwCl[ci]? = some (C, T, N)) (k : Nat) (hk : k < N) (hlink : (Cond.fieldLink own index (T k).1 (T k).2.1 (T k).2.2.1).before args s = true) (hfin : (T k).2.2.2 = false) {v : Int64} (hn : narrow (ty0 k) (.long v) = .long v) (hfit : fits (ty0 k) (.long v) = true) (hl : k < fs.length) (hset : ck_C G f i (σ.1 f i) (va_up (σ.2.1 f i) k v) (σ.2.2 f i) = .inr (ci, fs.set k (.long v))) (hdg : decode cc pc = .ok (.putfield index, 3))
    (kk : ∀ (H1 : Heap) (locs1 : List Loc), ck_H G s H1 locs1 (ck_uj σ f i k v) → W p l e R s m args below meth c H1 locs1 cells slots Q (F0 m (pc + 3) ls rest)) : W p l e R s m args below meth c H locs cells slots Q (F0 m pc ls (.long v :: .ref (ck_ad G f i) :: rest)) := by
  refine ck_put0 hexec hb hts hin ty0 hty hnm hown hw hm he hc k hk hlink hfin hn hfit hl (τ := ck_uj σ f i k v) ?_ ?_ hdg kk
  · show ck_C G f i (σ.1 f i) (ck_up σ.2.1 f i k v f i) (σ.2.2 f i) = _
    rw [ck_up_self]; exact hset
  · intro a b h
    show ck_C G a b (σ.1 a b) (ck_up σ.2.1 f i k v a b) (σ.2.2 a b) = _
    rw [ck_up_ne _ _ _ h]
theorem ck_putd (hexec : p.tables.exec = Jvm.exec) (hb : c.code = cc) {own C : String} {T : u_T} {N ci index : Nat} {Ts : List Cond} (hts : ∀ w ∈ Ts, w.before args s = true) (hin : ∀ w ∈ u_ws C T N, w ∈ Ts) (ty0 : Nat → FieldType) (hty : ∀ k, k < N → parseFieldDescriptor (T k).2.2.1 = some (ty0 k)) (hnm : ∀ a, a < N → ∀ b, b < N → a ≠ b → (T a).2.1 ≠ (T b).2.1) (hown : s.vm.findClass own = some m.cls) (hw : ck_H G s H locs σ) (hm : (f, i) ∈ ck_Ls G) {fs : List Value} (he : ck_V G σ f i = .inr (ci, fs)) (hc : vwCl[ci]? = some (C, T, N)) (k : Nat) (hk : k < N) (hlink : (Cond.fieldLink own index (T k).1 (T k).2.1 (T k).2.2.1).before args s = true) (hfin : (T k).2.2.2 = false) {v : UInt64} (hn : narrow (ty0 k) (.double v) = .double v) (hfit : fits (ty0 k) (.double v) = true) (hl : k < fs.length) (hset : ck_C G f i (σ.1 f i) (σ.2.1 f i) (va_up (σ.2.2 f i) k v) = .inr (ci, fs.set k (.double v))) (hdg : decode cc pc = .ok (.putfield index, 3))
    (kk : ∀ (H1 : Heap) (locs1 : List Loc), ck_H G s H1 locs1 (ck_ud σ f i k v) → W p l e R s m args below meth c H1 locs1 cells slots Q (F0 m (pc + 3) ls rest)) : W p l e R s m args below meth c H locs cells slots Q (F0 m pc ls (.double v :: .ref (ck_ad G f i) :: rest)) := by
  refine ck_put0 hexec hb hts hin ty0 hty hnm hown hw hm he hc k hk hlink hfin hn hfit hl (τ := ck_ud σ f i k v) ?_ ?_ hdg kk
  · show ck_C G f i (σ.1 f i) (σ.2.1 f i) (ck_up σ.2.2 f i k v f i) = _
    rw [ck_up_self]; exact hset
  · intro a b h
    show ck_C G a b (σ.1 a b) (σ.2.1 a b) (ck_up σ.2.2 f i k v a b) = _
    rw [ck_up_ne _ _ _ h]
theorem ck_iald (hexec : p.tables.exec = Jvm.exec) (hb : c.code = cc) (hw : ck_H G s H locs σ) (hm : (f, i) ∈ ck_Ls G) {n : Nat} (he : ck_V G σ f i = .inl (ck_cI G, n, .inl (σ.1 f i))) {x : Int32} (hin : vp_in x n) (hdg : decode cc pc = .ok (.iaload, 1))
    (kk : W p l e R s m args below meth c H locs cells slots Q (F0 m (pc + 1) ls (.int (ck_gi σ f i x.toNatClampNeg) :: rest))) : W p l e R s m args below meth c H locs cells slots Q (F0 m pc ls (.int x :: .ref (ck_ad G f i) :: rest)) := by
  obtain ⟨q, -, hq⟩ := ck_pos (σ := σ) hm
  rw [he] at hq
  exact va_iald hexec hb hw.1 hw.2.1 q 2 hq rfl hin hdg kk
theorem ck_bald (hexec : p.tables.exec = Jvm.exec) (hb : c.code = cc) (hw : ck_H G s H locs σ) (hm : (f, i) ∈ ck_Ls G) {n : Nat} (he : ck_V G σ f i = .inl (ck_cB G, n, .inl (σ.1 f i))) {x : Int32} (hin : vp_in x n) (hdg : decode cc pc = .ok (.baload, 1))
    (kk : W p l e R s m args below meth c H locs cells slots Q (F0 m (pc + 1) ls (.int (ck_gi σ f i x.toNatClampNeg) :: rest))) : W p l e R s m args below meth c H locs cells slots Q (F0 m pc ls (.int x :: .ref (ck_ad G f i) :: rest)) := by
  obtain ⟨q, -, hq⟩ := ck_pos (σ := σ) hm
  rw [he] at hq
  exact va_bald hexec hb hw.1 hw.2.1 q 0 hq rfl hin hdg kk
theorem ck_lald (hexec : p.tables.exec = Jvm.exec) (hb : c.code = cc) (hw : ck_H G s H locs σ) (hm : (f, i) ∈ ck_Ls G) {n : Nat} (he : ck_V G σ f i = .inl (ck_cJ G, n, .inr (.inl (σ.2.1 f i)))) {x : Int32} (hin : vp_in x n) (hdg : decode cc pc = .ok (.laload, 1))
    (kk : W p l e R s m args below meth c H locs cells slots Q (F0 m (pc + 1) ls (.long (ck_gj σ f i x.toNatClampNeg) :: rest))) : W p l e R s m args below meth c H locs cells slots Q (F0 m pc ls (.int x :: .ref (ck_ad G f i) :: rest)) := by
  obtain ⟨q, -, hq⟩ := ck_pos (σ := σ) hm
  rw [he] at hq
  exact va_lald hexec hb hw.1 hw.2.1 q 3 hq rfl hin hdg kk
theorem ck_dald (hexec : p.tables.exec = Jvm.exec) (hb : c.code = cc) (hw : ck_H G s H locs σ) (hm : (f, i) ∈ ck_Ls G) {n : Nat} (he : ck_V G σ f i = .inl (ck_cD G, n, .inr (.inr (.inr (.inl (σ.2.2 f i)))))) {x : Int32} (hin : vp_in x n) (hdg : decode cc pc = .ok (.daload, 1))
    (kk : W p l e R s m args below meth c H locs cells slots Q (F0 m (pc + 1) ls (.double (ck_gd σ f i x.toNatClampNeg) :: rest))) : W p l e R s m args below meth c H locs cells slots Q (F0 m pc ls (.int x :: .ref (ck_ad G f i) :: rest)) := by
  obtain ⟨q, -, hq⟩ := ck_pos (σ := σ) hm
  rw [he] at hq
  exact va_dald hexec hb hw.1 hw.2.1 q 1 hq rfl hin hdg kk
theorem ck_aald (hexec : p.tables.exec = Jvm.exec) (hb : c.code = cc) (hw : ck_H G s H locs σ) (hm : (1, 0) ∈ ck_Ls G) {x : Int32} (hin : vp_in x (ck_nc G)) (hdg : decode cc pc = .ok (.aaload, 1))
    (kk : W p l e R s m args below meth c H locs cells slots Q (F0 m (pc + 1) ls (.ref (ck_ad G 30 x.toNatClampNeg) :: rest))) : W p l e R s m args below meth c H locs cells slots Q (F0 m pc ls (.int x :: .ref (ck_ad G 1 0) :: rest)) := by
  obtain ⟨q, -, hq⟩ := ck_pos (σ := σ) hm
  exact va_aldq (f := fun k => some (ck_ad G 30 k)) hexec hb hw.1 hw.2.1 q 4 hq rfl hin hdg kk
theorem ck_alen (hexec : p.tables.exec = Jvm.exec) (hb : c.code = cc) (hw : ck_H G s H locs σ) (hm : (f, i) ∈ ck_Ls G) {cA : ClassId} {x : vp_A} (he : ck_V G σ f i = .inl (cA, x)) (t0 : Nat) {ty : FieldType} (ht : (ck_ty G)[t0]? = some (cA, ty)) {v : Int32} (hv : Int32.ofNat x.1 = v) (hdg : decode cc pc = .ok (.arraylength, 1))
    (kk : W p l e R s m args below meth c H locs cells slots Q (F0 m (pc + 1) ls (.int v :: rest))) : W p l e R s m args below meth c H locs cells slots Q (F0 m pc ls (.ref (ck_ad G f i) :: rest)) := by
  obtain ⟨q, -, hq⟩ := ck_pos (σ := σ) hm
  rw [he] at hq
  exact va_alen hexec hb hw.1 hw.2.1 q t0 hq ht hv hdg kk
theorem ck_iast (hexec : p.tables.exec = Jvm.exec) (hb : c.code = cc) (hw : ck_H G s H locs σ) (hm : (f, i) ∈ ck_Ls G) {n : Nat} (he : ∀ g, ck_C G f i g (σ.2.1 f i) (σ.2.2 f i) = .inl (ck_cI G, n, .inl g)) {x y : Int32} (hin : vp_in x n) (hdg : decode cc pc = .ok (.iastore, 1))
    (kk : ∀ (H1 : Heap) (locs1 : List Loc), ck_H G s H1 locs1 (ck_ui σ f i x.toNatClampNeg y) → W p l e R s m args below meth c H1 locs1 cells slots Q (F0 m (pc + 1) ls rest)) : W p l e R s m args below meth c H locs cells slots Q (F0 m pc ls (.int y :: .int x :: .ref (ck_ad G f i) :: rest)) := by
  obtain ⟨q, hq0, hq⟩ := ck_pos (σ := σ) hm
  rw [show ck_V G σ f i = .inl (ck_cI G, n, .inl (σ.1 f i)) from he _] at hq
  refine va_iast hexec hb hw.1 hw.2.1 hw.2.2.1 hw.2.2.2 q 2 hq rfl hin hdg (fun H1 locs1 hP hD hS => ?_)
  have hs := ck_set (τ := ck_ui σ f i x.toNatClampNeg y) (e := .inl (ck_cI G, n, .inl (upd (σ.1 f i) x.toNatClampNeg y))) hw.2.2.1 hq0 (by
    show ck_C G f i (ck_up σ.1 f i x.toNatClampNeg y f i) (σ.2.1 f i) (σ.2.2 f i) = _
    rw [ck_up_self]; exact he _) (by
    intro a b h
    show ck_C G a b (ck_up σ.1 f i x.toNatClampNeg y a b) (σ.2.1 a b) (σ.2.2 a b) = _
    rw [ck_up_ne _ _ _ h])
  rw [hs] at hP hD
  exact kk H1 locs1 ⟨hw.1, hP, hD, hS⟩
theorem ck_bast (hexec : p.tables.exec = Jvm.exec) (hb : c.code = cc) (hw : ck_H G s H locs σ) (hm : (f, i) ∈ ck_Ls G) {n : Nat} (he : ∀ g, ck_C G f i g (σ.2.1 f i) (σ.2.2 f i) = .inl (ck_cB G, n, .inl g)) {x y : Int32} (hin : vp_in x n) (hdg : decode cc pc = .ok (.bastore, 1))
    (kk : ∀ (H1 : Heap) (locs1 : List Loc), ck_H G s H1 locs1 (ck_ui σ f i x.toNatClampNeg (vp_nar .byte y)) → W p l e R s m args below meth c H1 locs1 cells slots Q (F0 m (pc + 1) ls rest)) : W p l e R s m args below meth c H locs cells slots Q (F0 m pc ls (.int y :: .int x :: .ref (ck_ad G f i) :: rest)) := by
  obtain ⟨q, hq0, hq⟩ := ck_pos (σ := σ) hm
  rw [show ck_V G σ f i = .inl (ck_cB G, n, .inl (σ.1 f i)) from he _] at hq
  refine va_bast hexec hb hw.1 hw.2.1 hw.2.2.1 hw.2.2.2 q 0 hq rfl hin hdg (fun H1 locs1 hP hD hS => ?_)
  have hs := ck_set (τ := ck_ui σ f i x.toNatClampNeg (vp_nar .byte y)) (e := .inl (ck_cB G, n, .inl (upd (σ.1 f i) x.toNatClampNeg (vp_nar .byte y)))) hw.2.2.1 hq0 (by
    show ck_C G f i (ck_up σ.1 f i x.toNatClampNeg (vp_nar .byte y) f i) (σ.2.1 f i) (σ.2.2 f i) = _
    rw [ck_up_self]; exact he _) (by
    intro a b h
    show ck_C G a b (ck_up σ.1 f i x.toNatClampNeg (vp_nar .byte y) a b) (σ.2.1 a b) (σ.2.2 a b) = _
    rw [ck_up_ne _ _ _ h])
  rw [hs] at hP hD
  exact kk H1 locs1 ⟨hw.1, hP, hD, hS⟩
theorem ck_last (hexec : p.tables.exec = Jvm.exec) (hb : c.code = cc) (hw : ck_H G s H locs σ) (hm : (f, i) ∈ ck_Ls G) {n : Nat} (he : ∀ g, ck_C G f i (σ.1 f i) g (σ.2.2 f i) = .inl (ck_cJ G, n, .inr (.inl g))) {x : Int32} {y : Int64} (hin : vp_in x n) (hdg : decode cc pc = .ok (.lastore, 1))
    (kk : ∀ (H1 : Heap) (locs1 : List Loc), ck_H G s H1 locs1 (ck_uj σ f i x.toNatClampNeg y) → W p l e R s m args below meth c H1 locs1 cells slots Q (F0 m (pc + 1) ls rest)) : W p l e R s m args below meth c H locs cells slots Q (F0 m pc ls (.long y :: .int x :: .ref (ck_ad G f i) :: rest)) := by
  obtain ⟨q, hq0, hq⟩ := ck_pos (σ := σ) hm
  rw [show ck_V G σ f i = .inl (ck_cJ G, n, .inr (.inl (σ.2.1 f i))) from he _] at hq
  refine va_last hexec hb hw.1 hw.2.1 hw.2.2.1 hw.2.2.2 q 3 hq rfl hin hdg (fun H1 locs1 hP hD hS => ?_)
  have hs := ck_set (τ := ck_uj σ f i x.toNatClampNeg y) (e := .inl (ck_cJ G, n, .inr (.inl (vp_updL (σ.2.1 f i) x.toNatClampNeg y)))) hw.2.2.1 hq0 (by
    show ck_C G f i (σ.1 f i) (ck_up σ.2.1 f i x.toNatClampNeg y f i) (σ.2.2 f i) = _
    rw [ck_up_self]; exact he _) (by
    intro a b h
    show ck_C G a b (σ.1 a b) (ck_up σ.2.1 f i x.toNatClampNeg y a b) (σ.2.2 a b) = _
    rw [ck_up_ne _ _ _ h])
  rw [hs] at hP hD
  exact kk H1 locs1 ⟨hw.1, hP, hD, hS⟩
theorem ck_dast (hexec : p.tables.exec = Jvm.exec) (hb : c.code = cc) (hw : ck_H G s H locs σ) (hm : (f, i) ∈ ck_Ls G) {n : Nat} (he : ∀ g, ck_C G f i (σ.1 f i) (σ.2.1 f i) g = .inl (ck_cD G, n, .inr (.inr (.inr (.inl g))))) {x : Int32} {y : UInt64} (hin : vp_in x n) (hdg : decode cc pc = .ok (.dastore, 1))
    (kk : ∀ (H1 : Heap) (locs1 : List Loc), ck_H G s H1 locs1 (ck_ud σ f i x.toNatClampNeg y) → W p l e R s m args below meth c H1 locs1 cells slots Q (F0 m (pc + 1) ls rest)) : W p l e R s m args below meth c H locs cells slots Q (F0 m pc ls (.double y :: .int x :: .ref (ck_ad G f i) :: rest)) := by
  obtain ⟨q, hq0, hq⟩ := ck_pos (σ := σ) hm
  rw [show ck_V G σ f i = .inl (ck_cD G, n, .inr (.inr (.inr (.inl (σ.2.2 f i))))) from he _] at hq
  refine va_dast hexec hb hw.1 hw.2.1 hw.2.2.1 hw.2.2.2 q 1 hq rfl hin hdg (fun H1 locs1 hP hD hS => ?_)
  have hs := ck_set (τ := ck_ud σ f i x.toNatClampNeg y) (e := .inl (ck_cD G, n, .inr (.inr (.inr (.inl (vf_upd (σ.2.2 f i) x.toNatClampNeg y)))))) hw.2.2.1 hq0 (by
    show ck_C G f i (σ.1 f i) (σ.2.1 f i) (ck_up σ.2.2 f i x.toNatClampNeg y f i) = _
    rw [ck_up_self]; exact he _) (by
    intro a b h
    show ck_C G a b (σ.1 a b) (σ.2.1 a b) (ck_up σ.2.2 f i x.toNatClampNeg y a b) = _
    rw [ck_up_ne _ _ _ h])
  rw [hs] at hP hD
  exact kk H1 locs1 ⟨hw.1, hP, hD, hS⟩
end CKR
end
section
/-! CONTRACTS over the world: a method's postcondition is any 'post' that its own predicate transformer (sp_..) gives. -/
def ck_Q (G : ck_G) : ck_S → State → Prop := fun τ t => va_P (ck_D G) vwCl (ck_W G τ) t.heap ∧ va_K (ck_D G) vwCl (ck_ty G) t
def ck_Pc (G : ck_G) (σ : ck_S) (sz : Nat) (av : List Value) : Array Value → State → Prop := va_Pc av (fun U => U.heap.size = sz ∧ va_K (ck_D G) vwCl (ck_ty G) U ∧ va_P (ck_D G) vwCl (ck_W G σ) U.heap ∧ va_D (fun _ => True) (ck_W G σ))
def ck_Mi (l : Launch) (y : MethodName) (ws : List Cond) (rm : Room) (G : ck_G) (σ : ck_S) (av : List Value) (post : Int32 → ck_S → Prop) : Prop := ∀ sz, Met l y ws rm (ck_Pc G σ sz av) (va_Qi post (ck_Q G) (ck_A G sz)) 0 0 (ck_A G sz)
def ck_Ml (l : Launch) (y : MethodName) (ws : List Cond) (rm : Room) (G : ck_G) (σ : ck_S) (av : List Value) (post : Int64 → ck_S → Prop) : Prop := ∀ sz, Met l y ws rm (ck_Pc G σ sz av) (va_Ql post (ck_Q G) (ck_A G sz)) 0 0 (ck_A G sz)
def ck_Md (l : Launch) (y : MethodName) (ws : List Cond) (rm : Room) (G : ck_G) (σ : ck_S) (av : List Value) (post : UInt64 → ck_S → Prop) : Prop := ∀ sz, Met l y ws rm (ck_Pc G σ sz av) (va_Qd post (ck_Q G) (ck_A G sz)) 0 0 (ck_A G sz)
def ck_Mv (l : Launch) (y : MethodName) (ws : List Cond) (rm : Room) (G : ck_G) (σ : ck_S) (av : List Value) (post : ck_S → Prop) : Prop := ∀ sz, Met l y ws rm (ck_Pc G σ sz av) (va_Qv post (ck_Q G) (ck_A G sz)) 0 0 (ck_A G sz)
theorem ck_enter {G : ck_G} {σ : ck_S} {sz : Nat} {av : List Value} {args : Array Value} {s : State} (h : ck_Pc G σ sz av args s) : args = av.toArray ∧ s.heap.size = sz ∧ ck_H G s s.heap [] σ := by
  obtain ⟨h1, h2, h3, h4, h5⟩ := h
  exact ⟨h1, h2, h3, h4, ck_self _ h5, va_S.rf⟩
theorem ck_blind {G : ck_G} {σ : ck_S} {sz : Nat} {av : List Value} : FrameBlind (ck_Pc G σ sz av) := fun a U g mk h => ⟨h.1, h.2.1, va_K.moved (u := U) (U := U.calling g mk a) (Vm.Alike.refl U.vm) h.2.2.1, h.2.2.2.1, h.2.2.2.2⟩
/-- what every body has at hand -/
def ck_X (p : Program) (s : State) (m : MethodId) (meth : Method) (c : Code) (args : Array Value) (cc : ByteArray) (nL : Nat) (ret : Option FieldType) (own : String) (Ts : List Cond) : Prop :=
  p.tables.exec = Jvm.exec ∧ c.code = cc ∧ meth.sig.returnType = ret ∧ c.maxLocals = nL ∧ s.vm.findClass own = some m.cls ∧ (∀ w ∈ Ts, w.before args s = true) ∧ meth.locks = false
section CKC
variable {p : Program} {l : Launch} {e : Env} {R : Room} {s : State} {m : MethodId} {args : Array Value} {below : List Frame} {meth : Method} {c : Code} {H : Heap} {locs : List Loc} {cells slots : Nat} {Q : State → Prop}
variable {cc bytes : ByteArray} {pc nL maxL n index : Nat} {ls : Array Slot} {rest st As : List Value} {G : ck_G} {σ : ck_S} {f i : Nat} {own C : String} {y : MethodName} {ws Ts : List Cond} {rm : Room} {ret : Option FieldType}
theorem ck_preS (hw : ck_H G s H locs σ) (av : List Value) : PreS s H (ck_Pc G σ H.size av) av := ⟨ck_blind, fun U hU hW => ⟨rfl, by rw [hU], va_K.moved hW.alike hw.1, by rw [hU]; exact hw.2.1, hw.2.2.1.weaken (fun _ _ _ _ => trivial)⟩⟩
theorem ck_recv (hw : ck_H G s H locs σ) (hm : (f, i) ∈ ck_Ls G) {ci : Nat} {fs : List Value} (he : ck_V G σ f i = .inr (ci, fs)) {T : u_T} {N : Nat} (hc : vwCl[ci]? = some (C, T, N)) : ∃ cell : Cell, H[ck_ad G f i]? = some cell ∧ cell.vm.isStatics = false ∧ s.vm.findClass C = some cell.cls := by
  obtain ⟨q, -, hq⟩ := ck_pos (σ := σ) hm
  rw [he] at hq
  exact va_recv hw.1 hw.2.1 hc hq
theorem ck_back (hw : ck_H G s H locs σ) {τ : ck_S} {t : State} {H1 : Heap} {locs1 : List Loc} (ht : t.heap = H1) (hB : ck_Q G τ t) (hS : va_S (ck_A G s.heap.size) s.heap H1 locs1) : ck_H G s H1 locs1 τ :=
  ⟨hw.1, by rw [← ht]; exact hB.1, ck_addr hw.2.2.1, hS⟩
theorem ck_callVi (S : CallFix p m c cc nL s args Ts own) (hw : ck_H G s H locs σ) (hm : (f, i) ∈ ck_Ls G) {ci : Nat} {fs : List Value} (he : ck_V G σ f i = .inr (ci, fs)) {T : u_T} {N : Nat} (hc : vwCl[ci]? = some (C, T, N)) {post : Int32 → ck_S → Prop} (hM : ck_Mi l y ws rm G σ (.ref (ck_ad G f i) :: As) post) (cw : CallW R s args own C index y bytes maxL ret ws rm 0 0 n)
    (hn : As.length = n) (hsize : ls.size = nL) (hst : st = As.reverse ++ .ref (ck_ad G f i) :: rest) (hW : (rest.map fun v => v.category).sum ≤ 8) (hdg : decode cc pc = .ok (.invokevirtual index, 3)) (hf : cells ≤ R.cells ∧ slots ≤ R.slots)
    (kk : ∀ (r : Int32) (τ : ck_S) (H1 : Heap) (locs1 : List Loc), post r τ → ck_H G s H1 locs1 τ → W p l e R s m args below meth c H1 locs1 cells slots Q (F0 m (pc + 3) ls (.int r :: rest))) : W p l e R s m args below meth c H locs cells slots Q (F0 m pc ls st) :=
  va_calli (va_runV (As := As) (rest := rest) S (hM H.size) cw ⟨(ck_preS hw _).1, ck_recv hw hm he hc, (ck_preS hw _).2⟩ rfl hn hsize hst (by show 2 * 0 + _ ≤ 8; omega) hdg hf) hw.2.2.2 (fun q _ h => ck_grow hw q h) (ck_grow hw) (fun r u t H1 locs1 ht hvm hp hB hz hk hS => kk r u H1 locs1 hp (ck_back hw ht hB hS))
theorem ck_callVl (S : CallFix p m c cc nL s args Ts own) (hw : ck_H G s H locs σ) (hm : (f, i) ∈ ck_Ls G) {ci : Nat} {fs : List Value} (he : ck_V G σ f i = .inr (ci, fs)) {T : u_T} {N : Nat} (hc : vwCl[ci]? = some (C, T, N)) {post : Int64 → ck_S → Prop} (hM : ck_Ml l y ws rm G σ (.ref (ck_ad G f i) :: As) post) (cw : CallW R s args own C index y bytes maxL ret ws rm 0 0 n)
    (hn : As.length = n) (hsize : ls.size = nL) (hst : st = As.reverse ++ .ref (ck_ad G f i) :: rest) (hW : (rest.map fun v => v.category).sum ≤ 8) (hdg : decode cc pc = .ok (.invokevirtual index, 3)) (hf : cells ≤ R.cells ∧ slots ≤ R.slots)
    (kk : ∀ (r : Int64) (τ : ck_S) (H1 : Heap) (locs1 : List Loc), post r τ → ck_H G s H1 locs1 τ → W p l e R s m args below meth c H1 locs1 cells slots Q (F0 m (pc + 3) ls (.long r :: rest))) : W p l e R s m args below meth c H locs cells slots Q (F0 m pc ls st) :=
  va_calll (va_runV (As := As) (rest := rest) S (hM H.size) cw ⟨(ck_preS hw _).1, ck_recv hw hm he hc, (ck_preS hw _).2⟩ rfl hn hsize hst (by show 2 * 0 + _ ≤ 8; omega) hdg hf) hw.2.2.2 (fun q _ h => ck_grow hw q h) (ck_grow hw) (fun r u t H1 locs1 ht hvm hp hB hz hk hS => kk r u H1 locs1 hp (ck_back hw ht hB hS))
theorem ck_callVd (S : CallFix p m c cc nL s args Ts own) (hw : ck_H G s H locs σ) (hm : (f, i) ∈ ck_Ls G) {ci : Nat} {fs : List Value} (he : ck_V G σ f i = .inr (ci, fs)) {T : u_T} {N : Nat} (hc : vwCl[ci]? = some (C, T, N)) {post : UInt64 → ck_S → Prop} (hM : ck_Md l y ws rm G σ (.ref (ck_ad G f i) :: As) post) (cw : CallW R s args own C index y bytes maxL ret ws rm 0 0 n)
    (hn : As.length = n) (hsize : ls.size = nL) (hst : st = As.reverse ++ .ref (ck_ad G f i) :: rest) (hW : (rest.map fun v => v.category).sum ≤ 8) (hdg : decode cc pc = .ok (.invokevirtual index, 3)) (hf : cells ≤ R.cells ∧ slots ≤ R.slots)
    (kk : ∀ (r : UInt64) (τ : ck_S) (H1 : Heap) (locs1 : List Loc), post r τ → ck_H G s H1 locs1 τ → W p l e R s m args below meth c H1 locs1 cells slots Q (F0 m (pc + 3) ls (.double r :: rest))) : W p l e R s m args below meth c H locs cells slots Q (F0 m pc ls st) :=
  va_calld (va_runV (As := As) (rest := rest) S (hM H.size) cw ⟨(ck_preS hw _).1, ck_recv hw hm he hc, (ck_preS hw _).2⟩ rfl hn hsize hst (by show 2 * 0 + _ ≤ 8; omega) hdg hf) hw.2.2.2 (fun q _ h => ck_grow hw q h) (ck_grow hw) (fun r u t H1 locs1 ht hvm hp hB hz hk hS => kk r u H1 locs1 hp (ck_back hw ht hB hS))
theorem ck_callVv (S : CallFix p m c cc nL s args Ts own) (hw : ck_H G s H locs σ) (hm : (f, i) ∈ ck_Ls G) {ci : Nat} {fs : List Value} (he : ck_V G σ f i = .inr (ci, fs)) {T : u_T} {N : Nat} (hc : vwCl[ci]? = some (C, T, N)) {post : ck_S → Prop} (hM : ck_Mv l y ws rm G σ (.ref (ck_ad G f i) :: As) post) (cw : CallW R s args own C index y bytes maxL ret ws rm 0 0 n)
    (hn : As.length = n) (hsize : ls.size = nL) (hst : st = As.reverse ++ .ref (ck_ad G f i) :: rest) (hW : (rest.map fun v => v.category).sum ≤ 8) (hdg : decode cc pc = .ok (.invokevirtual index, 3)) (hf : cells ≤ R.cells ∧ slots ≤ R.slots)
    (kk : ∀ (τ : ck_S) (H1 : Heap) (locs1 : List Loc), post τ → ck_H G s H1 locs1 τ → W p l e R s m args below meth c H1 locs1 cells slots Q (F0 m (pc + 3) ls rest)) : W p l e R s m args below meth c H locs cells slots Q (F0 m pc ls st) :=
  va_callv (va_runV (As := As) (rest := rest) S (hM H.size) cw ⟨(ck_preS hw _).1, ck_recv hw hm he hc, (ck_preS hw _).2⟩ rfl hn hsize hst (by show 2 * 0 + _ ≤ 8; omega) hdg hf) hw.2.2.2 (fun q _ h => ck_grow hw q h) (ck_grow hw) (fun u t H1 locs1 ht hvm hp hB hz hk hS => kk u H1 locs1 hp (ck_back hw ht hB hS))
theorem ck_callSi (S : CallFix p m c cc nL s args Ts own) (hw : ck_H G s H locs σ) {post : Int32 → ck_S → Prop} (hM : ck_Mi l y ws rm G σ As post) (cw : CallB R s args own index y bytes maxL ret ws rm 0 0 n ∧ (Cond.static y).before args s = true)
    (hn : As.length = n) (hsize : ls.size = nL) (hst : st = As.reverse ++ rest) (hW : (rest.map fun v => v.category).sum ≤ 8) (hdg : decode cc pc = .ok (.invokestatic index, 3)) (hf : cells ≤ R.cells ∧ slots ≤ R.slots)
    (kk : ∀ (r : Int32) (τ : ck_S) (H1 : Heap) (locs1 : List Loc), post r τ → ck_H G s H1 locs1 τ → W p l e R s m args below meth c H1 locs1 cells slots Q (F0 m (pc + 3) ls (.int r :: rest))) : W p l e R s m args below meth c H locs cells slots Q (F0 m pc ls st) :=
  va_calli (va_runS (As := As) (rest := rest) S (hM H.size) cw (ck_preS hw _) rfl hn hsize hst (by show 2 * 0 + _ ≤ 8; omega) hdg hf) hw.2.2.2 (fun q _ h => ck_grow hw q h) (ck_grow hw) (fun r u t H1 locs1 ht hvm hp hB hz hk hS => kk r u H1 locs1 hp (ck_back hw ht hB hS))
theorem ck_callSl (S : CallFix p m c cc nL s args Ts own) (hw : ck_H G s H locs σ) {post : Int64 → ck_S → Prop} (hM : ck_Ml l y ws rm G σ As post) (cw : CallB R s args own index y bytes maxL ret ws rm 0 0 n ∧ (Cond.static y).before args s = true)
    (hn : As.length = n) (hsize : ls.size = nL) (hst : st = As.reverse ++ rest) (hW : (rest.map fun v => v.category).sum ≤ 8) (hdg : decode cc pc = .ok (.invokestatic index, 3)) (hf : cells ≤ R.cells ∧ slots ≤ R.slots)
    (kk : ∀ (r : Int64) (τ : ck_S) (H1 : Heap) (locs1 : List Loc), post r τ → ck_H G s H1 locs1 τ → W p l e R s m args below meth c H1 locs1 cells slots Q (F0 m (pc + 3) ls (.long r :: rest))) : W p l e R s m args below meth c H locs cells slots Q (F0 m pc ls st) :=
  va_calll (va_runS (As := As) (rest := rest) S (hM H.size) cw (ck_preS hw _) rfl hn hsize hst (by show 2 * 0 + _ ≤ 8; omega) hdg hf) hw.2.2.2 (fun q _ h => ck_grow hw q h) (ck_grow hw) (fun r u t H1 locs1 ht hvm hp hB hz hk hS => kk r u H1 locs1 hp (ck_back hw ht hB hS))
theorem ck_iret (hx : ck_X p s m meth c args cc nL (some .int) own Ts) (hw : ck_H G s H locs σ) {post : Int32 → ck_S → Prop} {v : Int32} (hp : post v σ) (hdg : decode cc pc = .ok (.ireturn, 1)) : W p l e R s m args below meth c H locs cells slots (MQ below (va_Qi post (ck_Q G) (ck_A G s.heap.size)) args s cells slots (ck_A G s.heap.size)) (F0 m pc ls [.int v]) :=
  W.iret hx.1 hx.2.1 hx.2.2.1 (fun t ht hW => ⟨⟨v, σ, rfl, hp, by rw [ht]; exact hw.2.1, va_K.moved hW.alike hw.1⟩, hw.2.2.2.F ht⟩) hw.2.2.2.2.2 hdg hx.2.2.2.2.2.2
theorem ck_zret (hx : ck_X p s m meth c args cc nL (some .boolean) own Ts) (hw : ck_H G s H locs σ) {post : Int32 → ck_S → Prop} {v : Int32} (hp : ck_b v ∧ post v σ) (hdg : decode cc pc = .ok (.ireturn, 1)) : W p l e R s m args below meth c H locs cells slots (MQ below (va_Qi post (ck_Q G) (ck_A G s.heap.size)) args s cells slots (ck_A G s.heap.size)) (F0 m pc ls [.int v]) :=
  W.zret hx.1 hx.2.1 hx.2.2.1 (ck_b_n hp.1) (fun t ht hW => ⟨⟨v, σ, rfl, hp.2, by rw [ht]; exact hw.2.1, va_K.moved hW.alike hw.1⟩, hw.2.2.2.F ht⟩) hw.2.2.2.2.2 hdg hx.2.2.2.2.2.2
theorem ck_lret (hx : ck_X p s m meth c args cc nL (some .long) own Ts) (hw : ck_H G s H locs σ) {post : Int64 → ck_S → Prop} {v : Int64} (hp : post v σ) (hdg : decode cc pc = .ok (.lreturn, 1)) : W p l e R s m args below meth c H locs cells slots (MQ below (va_Ql post (ck_Q G) (ck_A G s.heap.size)) args s cells slots (ck_A G s.heap.size)) (F0 m pc ls [.long v]) :=
  W.lret hx.1 hx.2.1 hx.2.2.1 (fun t ht hW => ⟨⟨v, σ, rfl, hp, by rw [ht]; exact hw.2.1, va_K.moved hW.alike hw.1⟩, hw.2.2.2.F ht⟩) hw.2.2.2.2.2 hdg hx.2.2.2.2.2.2
theorem ck_dret (hx : ck_X p s m meth c args cc nL (some .double) own Ts) (hw : ck_H G s H locs σ) {post : UInt64 → ck_S → Prop} {v : UInt64} (hp : post v σ) (hdg : decode cc pc = .ok (.dreturn, 1)) : W p l e R s m args below meth c H locs cells slots (MQ below (va_Qd post (ck_Q G) (ck_A G s.heap.size)) args s cells slots (ck_A G s.heap.size)) (F0 m pc ls [.double v]) :=
  W.dret hx.1 hx.2.1 hx.2.2.1 (fun t ht hW => ⟨⟨v, σ, rfl, hp, by rw [ht]; exact hw.2.1, va_K.moved hW.alike hw.1⟩, hw.2.2.2.F ht⟩) hw.2.2.2.2.2 hdg hx.2.2.2.2.2.2
theorem ck_vret (hx : ck_X p s m meth c args cc nL none own Ts) (hw : ck_H G s H locs σ) {post : ck_S → Prop} (hp : post σ) (hdg : decode cc pc = .ok (.return_, 1)) : W p l e R s m args below meth c H locs cells slots (MQ below (va_Qv post (ck_Q G) (ck_A G s.heap.size)) args s cells slots (ck_A G s.heap.size)) (F0 m pc ls []) :=
  W.vret hx.1 hx.2.1 hx.2.2.1 (fun t ht hW => ⟨⟨σ, rfl, hp, by rw [ht]; exact hw.2.1, va_K.moved hW.alike hw.1⟩, hw.2.2.2.F ht⟩) hw.2.2.2.2.2 hdg hx.2.2.2.2.2.2
end CKC
theorem ck_in {x : Int32} {n : Nat} (h : vp_in x n) : x.toNatClampNeg < n := Nat.not_le.mp fun q => h (Or.inr q)
end
section
def lk_1 {A1 : Type} (F : (A1 → Prop) → A1 → Prop) : Nat → A1 → Prop
  | 0 => fun _ => False
  | n + 1 => fun a1 => F (lk_1 F n) a1
def lx_1 {A1 : Type} (F : (A1 → Prop) → A1 → Prop) (a1 : A1) : Prop := ∃ n, lk_1 F n a1
theorem lr_1 {A1 : Type} {F : (A1 → Prop) → A1 → Prop} (I : A1 → Prop) (μ : A1 → Nat) (hs : ∀ (a1 : A1), I a1 → ∀ K : A1 → Prop, (∀ (b1 : A1), I b1 → μ b1 < μ a1 → K b1) → F K a1) (a1 : A1) (h : I a1) : lx_1 F a1 := by
  have key : ∀ (n : Nat) (a1 : A1), I a1 → μ a1 < n → lk_1 F n a1 := by
    intro n
    induction n with
    | zero => intro a1 _ hn; exact absurd hn (Nat.not_lt_zero _)
    | succ n ih => intro a1 hI hn; exact hs a1 hI _ (fun b1 hb hl => ih b1 hb (Nat.lt_of_lt_of_le hl (Nat.le_of_lt_succ hn)))
  exact ⟨μ a1 + 1, key _ _ h (Nat.lt_succ_self _)⟩
def lk_2 {A1 A2 : Type} (F : (A1 → A2 → Prop) → A1 → A2 → Prop) : Nat → A1 → A2 → Prop
  | 0 => fun _ _ => False
  | n + 1 => fun a1 a2 => F (lk_2 F n) a1 a2
def lx_2 {A1 A2 : Type} (F : (A1 → A2 → Prop) → A1 → A2 → Prop) (a1 : A1) (a2 : A2) : Prop := ∃ n, lk_2 F n a1 a2
theorem lr_2 {A1 A2 : Type} {F : (A1 → A2 → Prop) → A1 → A2 → Prop} (I : A1 → A2 → Prop) (μ : A1 → A2 → Nat) (hs : ∀ (a1 : A1) (a2 : A2), I a1 a2 → ∀ K : A1 → A2 → Prop, (∀ (b1 : A1) (b2 : A2), I b1 b2 → μ b1 b2 < μ a1 a2 → K b1 b2) → F K a1 a2) (a1 : A1) (a2 : A2) (h : I a1 a2) : lx_2 F a1 a2 := by
  have key : ∀ (n : Nat) (a1 : A1) (a2 : A2), I a1 a2 → μ a1 a2 < n → lk_2 F n a1 a2 := by
    intro n
    induction n with
    | zero => intro a1 a2 _ hn; exact absurd hn (Nat.not_lt_zero _)
    | succ n ih => intro a1 a2 hI hn; exact hs a1 a2 hI _ (fun b1 b2 hb hl => ih b1 b2 hb (Nat.lt_of_lt_of_le hl (Nat.le_of_lt_succ hn)))
  exact ⟨μ a1 a2 + 1, key _ _ _ h (Nat.lt_succ_self _)⟩
def lk_3 {A1 A2 A3 : Type} (F : (A1 → A2 → A3 → Prop) → A1 → A2 → A3 → Prop) : Nat → A1 → A2 → A3 → Prop
  | 0 => fun _ _ _ => False
  | n + 1 => fun a1 a2 a3 => F (lk_3 F n) a1 a2 a3
def lx_3 {A1 A2 A3 : Type} (F : (A1 → A2 → A3 → Prop) → A1 → A2 → A3 → Prop) (a1 : A1) (a2 : A2) (a3 : A3) : Prop := ∃ n, lk_3 F n a1 a2 a3
theorem lr_3 {A1 A2 A3 : Type} {F : (A1 → A2 → A3 → Prop) → A1 → A2 → A3 → Prop} (I : A1 → A2 → A3 → Prop) (μ : A1 → A2 → A3 → Nat) (hs : ∀ (a1 : A1) (a2 : A2) (a3 : A3), I a1 a2 a3 → ∀ K : A1 → A2 → A3 → Prop, (∀ (b1 : A1) (b2 : A2) (b3 : A3), I b1 b2 b3 → μ b1 b2 b3 < μ a1 a2 a3 → K b1 b2 b3) → F K a1 a2 a3) (a1 : A1) (a2 : A2) (a3 : A3) (h : I a1 a2 a3) : lx_3 F a1 a2 a3 := by
  have key : ∀ (n : Nat) (a1 : A1) (a2 : A2) (a3 : A3), I a1 a2 a3 → μ a1 a2 a3 < n → lk_3 F n a1 a2 a3 := by
    intro n
    induction n with
    | zero => intro a1 a2 a3 _ hn; exact absurd hn (Nat.not_lt_zero _)
    | succ n ih => intro a1 a2 a3 hI hn; exact hs a1 a2 a3 hI _ (fun b1 b2 b3 hb hl => ih b1 b2 b3 hb (Nat.lt_of_lt_of_le hl (Nat.le_of_lt_succ hn)))
  exact ⟨μ a1 a2 a3 + 1, key _ _ _ _ h (Nat.lt_succ_self _)⟩
def lk_4 {A1 A2 A3 A4 : Type} (F : (A1 → A2 → A3 → A4 → Prop) → A1 → A2 → A3 → A4 → Prop) : Nat → A1 → A2 → A3 → A4 → Prop
  | 0 => fun _ _ _ _ => False
  | n + 1 => fun a1 a2 a3 a4 => F (lk_4 F n) a1 a2 a3 a4
def lx_4 {A1 A2 A3 A4 : Type} (F : (A1 → A2 → A3 → A4 → Prop) → A1 → A2 → A3 → A4 → Prop) (a1 : A1) (a2 : A2) (a3 : A3) (a4 : A4) : Prop := ∃ n, lk_4 F n a1 a2 a3 a4
theorem lr_4 {A1 A2 A3 A4 : Type} {F : (A1 → A2 → A3 → A4 → Prop) → A1 → A2 → A3 → A4 → Prop} (I : A1 → A2 → A3 → A4 → Prop) (μ : A1 → A2 → A3 → A4 → Nat) (hs : ∀ (a1 : A1) (a2 : A2) (a3 : A3) (a4 : A4), I a1 a2 a3 a4 → ∀ K : A1 → A2 → A3 → A4 → Prop, (∀ (b1 : A1) (b2 : A2) (b3 : A3) (b4 : A4), I b1 b2 b3 b4 → μ b1 b2 b3 b4 < μ a1 a2 a3 a4 → K b1 b2 b3 b4) → F K a1 a2 a3 a4) (a1 : A1) (a2 : A2) (a3 : A3) (a4 : A4) (h : I a1 a2 a3 a4) : lx_4 F a1 a2 a3 a4 := by
  have key : ∀ (n : Nat) (a1 : A1) (a2 : A2) (a3 : A3) (a4 : A4), I a1 a2 a3 a4 → μ a1 a2 a3 a4 < n → lk_4 F n a1 a2 a3 a4 := by
    intro n
    induction n with
    | zero => intro a1 a2 a3 a4 _ hn; exact absurd hn (Nat.not_lt_zero _)
    | succ n ih => intro a1 a2 a3 a4 hI hn; exact hs a1 a2 a3 a4 hI _ (fun b1 b2 b3 b4 hb hl => ih b1 b2 b3 b4 hb (Nat.lt_of_lt_of_le hl (Nat.le_of_lt_succ hn)))
  exact ⟨μ a1 a2 a3 a4 + 1, key _ _ _ _ _ h (Nat.lt_succ_self _)⟩
def lk_5 {A1 A2 A3 A4 A5 : Type} (F : (A1 → A2 → A3 → A4 → A5 → Prop) → A1 → A2 → A3 → A4 → A5 → Prop) : Nat → A1 → A2 → A3 → A4 → A5 → Prop
  | 0 => fun _ _ _ _ _ => False
  | n + 1 => fun a1 a2 a3 a4 a5 => F (lk_5 F n) a1 a2 a3 a4 a5
def lx_5 {A1 A2 A3 A4 A5 : Type} (F : (A1 → A2 → A3 → A4 → A5 → Prop) → A1 → A2 → A3 → A4 → A5 → Prop) (a1 : A1) (a2 : A2) (a3 : A3) (a4 : A4) (a5 : A5) : Prop := ∃ n, lk_5 F n a1 a2 a3 a4 a5
theorem lr_5 {A1 A2 A3 A4 A5 : Type} {F : (A1 → A2 → A3 → A4 → A5 → Prop) → A1 → A2 → A3 → A4 → A5 → Prop} (I : A1 → A2 → A3 → A4 → A5 → Prop) (μ : A1 → A2 → A3 → A4 → A5 → Nat) (hs : ∀ (a1 : A1) (a2 : A2) (a3 : A3) (a4 : A4) (a5 : A5), I a1 a2 a3 a4 a5 → ∀ K : A1 → A2 → A3 → A4 → A5 → Prop, (∀ (b1 : A1) (b2 : A2) (b3 : A3) (b4 : A4) (b5 : A5), I b1 b2 b3 b4 b5 → μ b1 b2 b3 b4 b5 < μ a1 a2 a3 a4 a5 → K b1 b2 b3 b4 b5) → F K a1 a2 a3 a4 a5) (a1 : A1) (a2 : A2) (a3 : A3) (a4 : A4) (a5 : A5) (h : I a1 a2 a3 a4 a5) : lx_5 F a1 a2 a3 a4 a5 := by
  have key : ∀ (n : Nat) (a1 : A1) (a2 : A2) (a3 : A3) (a4 : A4) (a5 : A5), I a1 a2 a3 a4 a5 → μ a1 a2 a3 a4 a5 < n → lk_5 F n a1 a2 a3 a4 a5 := by
    intro n
    induction n with
    | zero => intro a1 a2 a3 a4 a5 _ hn; exact absurd hn (Nat.not_lt_zero _)
    | succ n ih => intro a1 a2 a3 a4 a5 hI hn; exact hs a1 a2 a3 a4 a5 hI _ (fun b1 b2 b3 b4 b5 hb hl => ih b1 b2 b3 b4 b5 hb (Nat.lt_of_lt_of_le hl (Nat.le_of_lt_succ hn)))
  exact ⟨μ a1 a2 a3 a4 a5 + 1, key _ _ _ _ _ _ h (Nat.lt_succ_self _)⟩
def lk_6 {A1 A2 A3 A4 A5 A6 : Type} (F : (A1 → A2 → A3 → A4 → A5 → A6 → Prop) → A1 → A2 → A3 → A4 → A5 → A6 → Prop) : Nat → A1 → A2 → A3 → A4 → A5 → A6 → Prop
  | 0 => fun _ _ _ _ _ _ => False
  | n + 1 => fun a1 a2 a3 a4 a5 a6 => F (lk_6 F n) a1 a2 a3 a4 a5 a6
def lx_6 {A1 A2 A3 A4 A5 A6 : Type} (F : (A1 → A2 → A3 → A4 → A5 → A6 → Prop) → A1 → A2 → A3 → A4 → A5 → A6 → Prop) (a1 : A1) (a2 : A2) (a3 : A3) (a4 : A4) (a5 : A5) (a6 : A6) : Prop := ∃ n, lk_6 F n a1 a2 a3 a4 a5 a6
theorem lr_6 {A1 A2 A3 A4 A5 A6 : Type} {F : (A1 → A2 → A3 → A4 → A5 → A6 → Prop) → A1 → A2 → A3 → A4 → A5 → A6 → Prop} (I : A1 → A2 → A3 → A4 → A5 → A6 → Prop) (μ : A1 → A2 → A3 → A4 → A5 → A6 → Nat) (hs : ∀ (a1 : A1) (a2 : A2) (a3 : A3) (a4 : A4) (a5 : A5) (a6 : A6), I a1 a2 a3 a4 a5 a6 → ∀ K : A1 → A2 → A3 → A4 → A5 → A6 → Prop, (∀ (b1 : A1) (b2 : A2) (b3 : A3) (b4 : A4) (b5 : A5) (b6 : A6), I b1 b2 b3 b4 b5 b6 → μ b1 b2 b3 b4 b5 b6 < μ a1 a2 a3 a4 a5 a6 → K b1 b2 b3 b4 b5 b6) → F K a1 a2 a3 a4 a5 a6) (a1 : A1) (a2 : A2) (a3 : A3) (a4 : A4) (a5 : A5) (a6 : A6) (h : I a1 a2 a3 a4 a5 a6) : lx_6 F a1 a2 a3 a4 a5 a6 := by
  have key : ∀ (n : Nat) (a1 : A1) (a2 : A2) (a3 : A3) (a4 : A4) (a5 : A5) (a6 : A6), I a1 a2 a3 a4 a5 a6 → μ a1 a2 a3 a4 a5 a6 < n → lk_6 F n a1 a2 a3 a4 a5 a6 := by
    intro n
    induction n with
    | zero => intro a1 a2 a3 a4 a5 a6 _ hn; exact absurd hn (Nat.not_lt_zero _)
    | succ n ih => intro a1 a2 a3 a4 a5 a6 hI hn; exact hs a1 a2 a3 a4 a5 a6 hI _ (fun b1 b2 b3 b4 b5 b6 hb hl => ih b1 b2 b3 b4 b5 b6 hb (Nat.lt_of_lt_of_le hl (Nat.le_of_lt_succ hn)))
  exact ⟨μ a1 a2 a3 a4 a5 a6 + 1, key _ _ _ _ _ _ _ h (Nat.lt_succ_self _)⟩
def lk_7 {A1 A2 A3 A4 A5 A6 A7 : Type} (F : (A1 → A2 → A3 → A4 → A5 → A6 → A7 → Prop) → A1 → A2 → A3 → A4 → A5 → A6 → A7 → Prop) : Nat → A1 → A2 → A3 → A4 → A5 → A6 → A7 → Prop
  | 0 => fun _ _ _ _ _ _ _ => False
  | n + 1 => fun a1 a2 a3 a4 a5 a6 a7 => F (lk_7 F n) a1 a2 a3 a4 a5 a6 a7
def lx_7 {A1 A2 A3 A4 A5 A6 A7 : Type} (F : (A1 → A2 → A3 → A4 → A5 → A6 → A7 → Prop) → A1 → A2 → A3 → A4 → A5 → A6 → A7 → Prop) (a1 : A1) (a2 : A2) (a3 : A3) (a4 : A4) (a5 : A5) (a6 : A6) (a7 : A7) : Prop := ∃ n, lk_7 F n a1 a2 a3 a4 a5 a6 a7
theorem lr_7 {A1 A2 A3 A4 A5 A6 A7 : Type} {F : (A1 → A2 → A3 → A4 → A5 → A6 → A7 → Prop) → A1 → A2 → A3 → A4 → A5 → A6 → A7 → Prop} (I : A1 → A2 → A3 → A4 → A5 → A6 → A7 → Prop) (μ : A1 → A2 → A3 → A4 → A5 → A6 → A7 → Nat) (hs : ∀ (a1 : A1) (a2 : A2) (a3 : A3) (a4 : A4) (a5 : A5) (a6 : A6) (a7 : A7), I a1 a2 a3 a4 a5 a6 a7 → ∀ K : A1 → A2 → A3 → A4 → A5 → A6 → A7 → Prop, (∀ (b1 : A1) (b2 : A2) (b3 : A3) (b4 : A4) (b5 : A5) (b6 : A6) (b7 : A7), I b1 b2 b3 b4 b5 b6 b7 → μ b1 b2 b3 b4 b5 b6 b7 < μ a1 a2 a3 a4 a5 a6 a7 → K b1 b2 b3 b4 b5 b6 b7) → F K a1 a2 a3 a4 a5 a6 a7) (a1 : A1) (a2 : A2) (a3 : A3) (a4 : A4) (a5 : A5) (a6 : A6) (a7 : A7) (h : I a1 a2 a3 a4 a5 a6 a7) : lx_7 F a1 a2 a3 a4 a5 a6 a7 := by
  have key : ∀ (n : Nat) (a1 : A1) (a2 : A2) (a3 : A3) (a4 : A4) (a5 : A5) (a6 : A6) (a7 : A7), I a1 a2 a3 a4 a5 a6 a7 → μ a1 a2 a3 a4 a5 a6 a7 < n → lk_7 F n a1 a2 a3 a4 a5 a6 a7 := by
    intro n
    induction n with
    | zero => intro a1 a2 a3 a4 a5 a6 a7 _ hn; exact absurd hn (Nat.not_lt_zero _)
    | succ n ih => intro a1 a2 a3 a4 a5 a6 a7 hI hn; exact hs a1 a2 a3 a4 a5 a6 a7 hI _ (fun b1 b2 b3 b4 b5 b6 b7 hb hl => ih b1 b2 b3 b4 b5 b6 b7 hb (Nat.lt_of_lt_of_le hl (Nat.le_of_lt_succ hn)))
  exact ⟨μ a1 a2 a3 a4 a5 a6 a7 + 1, key _ _ _ _ _ _ _ _ h (Nat.lt_succ_self _)⟩
def lk_8 {A1 A2 A3 A4 A5 A6 A7 A8 : Type} (F : (A1 → A2 → A3 → A4 → A5 → A6 → A7 → A8 → Prop) → A1 → A2 → A3 → A4 → A5 → A6 → A7 → A8 → Prop) : Nat → A1 → A2 → A3 → A4 → A5 → A6 → A7 → A8 → Prop
  | 0 => fun _ _ _ _ _ _ _ _ => False
  | n + 1 => fun a1 a2 a3 a4 a5 a6 a7 a8 => F (lk_8 F n) a1 a2 a3 a4 a5 a6 a7 a8
def lx_8 {A1 A2 A3 A4 A5 A6 A7 A8 : Type} (F : (A1 → A2 → A3 → A4 → A5 → A6 → A7 → A8 → Prop) → A1 → A2 → A3 → A4 → A5 → A6 → A7 → A8 → Prop) (a1 : A1) (a2 : A2) (a3 : A3) (a4 : A4) (a5 : A5) (a6 : A6) (a7 : A7) (a8 : A8) : Prop := ∃ n, lk_8 F n a1 a2 a3 a4 a5 a6 a7 a8
theorem lr_8 {A1 A2 A3 A4 A5 A6 A7 A8 : Type} {F : (A1 → A2 → A3 → A4 → A5 → A6 → A7 → A8 → Prop) → A1 → A2 → A3 → A4 → A5 → A6 → A7 → A8 → Prop} (I : A1 → A2 → A3 → A4 → A5 → A6 → A7 → A8 → Prop) (μ : A1 → A2 → A3 → A4 → A5 → A6 → A7 → A8 → Nat) (hs : ∀ (a1 : A1) (a2 : A2) (a3 : A3) (a4 : A4) (a5 : A5) (a6 : A6) (a7 : A7) (a8 : A8), I a1 a2 a3 a4 a5 a6 a7 a8 → ∀ K : A1 → A2 → A3 → A4 → A5 → A6 → A7 → A8 → Prop, (∀ (b1 : A1) (b2 : A2) (b3 : A3) (b4 : A4) (b5 : A5) (b6 : A6) (b7 : A7) (b8 : A8), I b1 b2 b3 b4 b5 b6 b7 b8 → μ b1 b2 b3 b4 b5 b6 b7 b8 < μ a1 a2 a3 a4 a5 a6 a7 a8 → K b1 b2 b3 b4 b5 b6 b7 b8) → F K a1 a2 a3 a4 a5 a6 a7 a8) (a1 : A1) (a2 : A2) (a3 : A3) (a4 : A4) (a5 : A5) (a6 : A6) (a7 : A7) (a8 : A8) (h : I a1 a2 a3 a4 a5 a6 a7 a8) : lx_8 F a1 a2 a3 a4 a5 a6 a7 a8 := by
  have key : ∀ (n : Nat) (a1 : A1) (a2 : A2) (a3 : A3) (a4 : A4) (a5 : A5) (a6 : A6) (a7 : A7) (a8 : A8), I a1 a2 a3 a4 a5 a6 a7 a8 → μ a1 a2 a3 a4 a5 a6 a7 a8 < n → lk_8 F n a1 a2 a3 a4 a5 a6 a7 a8 := by
    intro n
    induction n with
    | zero => intro a1 a2 a3 a4 a5 a6 a7 a8 _ hn; exact absurd hn (Nat.not_lt_zero _)
    | succ n ih => intro a1 a2 a3 a4 a5 a6 a7 a8 hI hn; exact hs a1 a2 a3 a4 a5 a6 a7 a8 hI _ (fun b1 b2 b3 b4 b5 b6 b7 b8 hb hl => ih b1 b2 b3 b4 b5 b6 b7 b8 hb (Nat.lt_of_lt_of_le hl (Nat.le_of_lt_succ hn)))
  exact ⟨μ a1 a2 a3 a4 a5 a6 a7 a8 + 1, key _ _ _ _ _ _ _ _ _ h (Nat.lt_succ_self _)⟩
def lk_9 {A1 A2 A3 A4 A5 A6 A7 A8 A9 : Type} (F : (A1 → A2 → A3 → A4 → A5 → A6 → A7 → A8 → A9 → Prop) → A1 → A2 → A3 → A4 → A5 → A6 → A7 → A8 → A9 → Prop) : Nat → A1 → A2 → A3 → A4 → A5 → A6 → A7 → A8 → A9 → Prop
  | 0 => fun _ _ _ _ _ _ _ _ _ => False
  | n + 1 => fun a1 a2 a3 a4 a5 a6 a7 a8 a9 => F (lk_9 F n) a1 a2 a3 a4 a5 a6 a7 a8 a9
def lx_9 {A1 A2 A3 A4 A5 A6 A7 A8 A9 : Type} (F : (A1 → A2 → A3 → A4 → A5 → A6 → A7 → A8 → A9 → Prop) → A1 → A2 → A3 → A4 → A5 → A6 → A7 → A8 → A9 → Prop) (a1 : A1) (a2 : A2) (a3 : A3) (a4 : A4) (a5 : A5) (a6 : A6) (a7 : A7) (a8 : A8) (a9 : A9) : Prop := ∃ n, lk_9 F n a1 a2 a3 a4 a5 a6 a7 a8 a9
theorem lr_9 {A1 A2 A3 A4 A5 A6 A7 A8 A9 : Type} {F : (A1 → A2 → A3 → A4 → A5 → A6 → A7 → A8 → A9 → Prop) → A1 → A2 → A3 → A4 → A5 → A6 → A7 → A8 → A9 → Prop} (I : A1 → A2 → A3 → A4 → A5 → A6 → A7 → A8 → A9 → Prop) (μ : A1 → A2 → A3 → A4 → A5 → A6 → A7 → A8 → A9 → Nat) (hs : ∀ (a1 : A1) (a2 : A2) (a3 : A3) (a4 : A4) (a5 : A5) (a6 : A6) (a7 : A7) (a8 : A8) (a9 : A9), I a1 a2 a3 a4 a5 a6 a7 a8 a9 → ∀ K : A1 → A2 → A3 → A4 → A5 → A6 → A7 → A8 → A9 → Prop, (∀ (b1 : A1) (b2 : A2) (b3 : A3) (b4 : A4) (b5 : A5) (b6 : A6) (b7 : A7) (b8 : A8) (b9 : A9), I b1 b2 b3 b4 b5 b6 b7 b8 b9 → μ b1 b2 b3 b4 b5 b6 b7 b8 b9 < μ a1 a2 a3 a4 a5 a6 a7 a8 a9 → K b1 b2 b3 b4 b5 b6 b7 b8 b9) → F K a1 a2 a3 a4 a5 a6 a7 a8 a9) (a1 : A1) (a2 : A2) (a3 : A3) (a4 : A4) (a5 : A5) (a6 : A6) (a7 : A7) (a8 : A8) (a9 : A9) (h : I a1 a2 a3 a4 a5 a6 a7 a8 a9) : lx_9 F a1 a2 a3 a4 a5 a6 a7 a8 a9 := by
  have key : ∀ (n : Nat) (a1 : A1) (a2 : A2) (a3 : A3) (a4 : A4) (a5 : A5) (a6 : A6) (a7 : A7) (a8 : A8) (a9 : A9), I a1 a2 a3 a4 a5 a6 a7 a8 a9 → μ a1 a2 a3 a4 a5 a6 a7 a8 a9 < n → lk_9 F n a1 a2 a3 a4 a5 a6 a7 a8 a9 := by
    intro n
    induction n with
    | zero => intro a1 a2 a3 a4 a5 a6 a7 a8 a9 _ hn; exact absurd hn (Nat.not_lt_zero _)
    | succ n ih => intro a1 a2 a3 a4 a5 a6 a7 a8 a9 hI hn; exact hs a1 a2 a3 a4 a5 a6 a7 a8 a9 hI _ (fun b1 b2 b3 b4 b5 b6 b7 b8 b9 hb hl => ih b1 b2 b3 b4 b5 b6 b7 b8 b9 hb (Nat.lt_of_lt_of_le hl (Nat.le_of_lt_succ hn)))
  exact ⟨μ a1 a2 a3 a4 a5 a6 a7 a8 a9 + 1, key _ _ _ _ _ _ _ _ _ _ h (Nat.lt_succ_self _)⟩
def lk_10 {A1 A2 A3 A4 A5 A6 A7 A8 A9 A10 : Type} (F : (A1 → A2 → A3 → A4 → A5 → A6 → A7 → A8 → A9 → A10 → Prop) → A1 → A2 → A3 → A4 → A5 → A6 → A7 → A8 → A9 → A10 → Prop) : Nat → A1 → A2 → A3 → A4 → A5 → A6 → A7 → A8 → A9 → A10 → Prop
  | 0 => fun _ _ _ _ _ _ _ _ _ _ => False
  | n + 1 => fun a1 a2 a3 a4 a5 a6 a7 a8 a9 a10 => F (lk_10 F n) a1 a2 a3 a4 a5 a6 a7 a8 a9 a10
def lx_10 {A1 A2 A3 A4 A5 A6 A7 A8 A9 A10 : Type} (F : (A1 → A2 → A3 → A4 → A5 → A6 → A7 → A8 → A9 → A10 → Prop) → A1 → A2 → A3 → A4 → A5 → A6 → A7 → A8 → A9 → A10 → Prop) (a1 : A1) (a2 : A2) (a3 : A3) (a4 : A4) (a5 : A5) (a6 : A6) (a7 : A7) (a8 : A8) (a9 : A9) (a10 : A10) : Prop := ∃ n, lk_10 F n a1 a2 a3 a4 a5 a6 a7 a8 a9 a10
theorem lr_10 {A1 A2 A3 A4 A5 A6 A7 A8 A9 A10 : Type} {F : (A1 → A2 → A3 → A4 → A5 → A6 → A7 → A8 → A9 → A10 → Prop) → A1 → A2 → A3 → A4 → A5 → A6 → A7 → A8 → A9 → A10 → Prop} (I : A1 → A2 → A3 → A4 → A5 → A6 → A7 → A8 → A9 → A10 → Prop) (μ : A1 → A2 → A3 → A4 → A5 → A6 → A7 → A8 → A9 → A10 → Nat) (hs : ∀ (a1 : A1) (a2 : A2) (a3 : A3) (a4 : A4) (a5 : A5) (a6 : A6) (a7 : A7) (a8 : A8) (a9 : A9) (a10 : A10), I a1 a2 a3 a4 a5 a6 a7 a8 a9 a10 → ∀ K : A1 → A2 → A3 → A4 → A5 → A6 → A7 → A8 → A9 → A10 → Prop, (∀ (b1 : A1) (b2 : A2) (b3 : A3) (b4 : A4) (b5 : A5) (b6 : A6) (b7 : A7) (b8 : A8) (b9 : A9) (b10 : A10), I b1 b2 b3 b4 b5 b6 b7 b8 b9 b10 → μ b1 b2 b3 b4 b5 b6 b7 b8 b9 b10 < μ a1 a2 a3 a4 a5 a6 a7 a8 a9 a10 → K b1 b2 b3 b4 b5 b6 b7 b8 b9 b10) → F K a1 a2 a3 a4 a5 a6 a7 a8 a9 a10) (a1 : A1) (a2 : A2) (a3 : A3) (a4 : A4) (a5 : A5) (a6 : A6) (a7 : A7) (a8 : A8) (a9 : A9) (a10 : A10) (h : I a1 a2 a3 a4 a5 a6 a7 a8 a9 a10) : lx_10 F a1 a2 a3 a4 a5 a6 a7 a8 a9 a10 := by
  have key : ∀ (n : Nat) (a1 : A1) (a2 : A2) (a3 : A3) (a4 : A4) (a5 : A5) (a6 : A6) (a7 : A7) (a8 : A8) (a9 : A9) (a10 : A10), I a1 a2 a3 a4 a5 a6 a7 a8 a9 a10 → μ a1 a2 a3 a4 a5 a6 a7 a8 a9 a10 < n → lk_10 F n a1 a2 a3 a4 a5 a6 a7 a8 a9 a10 := by
    intro n
    induction n with
    | zero => intro a1 a2 a3 a4 a5 a6 a7 a8 a9 a10 _ hn; exact absurd hn (Nat.not_lt_zero _)
    | succ n ih => intro a1 a2 a3 a4 a5 a6 a7 a8 a9 a10 hI hn; exact hs a1 a2 a3 a4 a5 a6 a7 a8 a9 a10 hI _ (fun b1 b2 b3 b4 b5 b6 b7 b8 b9 b10 hb hl => ih b1 b2 b3 b4 b5 b6 b7 b8 b9 b10 hb (Nat.lt_of_lt_of_le hl (Nat.le_of_lt_succ hn)))
  exact ⟨μ a1 a2 a3 a4 a5 a6 a7 a8 a9 a10 + 1, key _ _ _ _ _ _ _ _ _ _ _ h (Nat.lt_succ_self _)⟩
end
section
def sp_X3_isStale (nc nb : Nat) (σ : ck_S) (i : Nat) (post : Int32 → ck_S → Prop) : Prop := (((ck_gi σ 30 i 4) = 0 → ((ck_b 1 ∧ post 1 σ))) ∧ (¬ (ck_gi σ 30 i 4) = 0 → ((((ck_gi σ 30 i 5) ≤ 10 → ((ck_b 0 ∧ post 0 σ))) ∧ (¬ (ck_gi σ 30 i 5) ≤ 10 → ((ck_b 1 ∧ post 1 σ)))))))
set_option maxHeartbeats 4000000 in
set_option maxRecDepth 100000 in
theorem wk_X3_isStale_0 {p : Program} {l : Launch} {e : Env} {s : State} {m : MethodId} {args : Array Value} {below : List Frame} {meth : Method} {c : Code} {G : ck_G} (X : ck_X p s m meth c args cX3_isStale 1 (some .boolean) RX3 wsX3_isStale) (hC : ck_inC G) {i : Nat} (hi : i < ck_nc G) {post : Int32 → ck_S → Prop} {σ : ck_S} {H : Heap} {locs : List Loc} {ls : Array Slot} (h : sp_X3_isStale (ck_nc G) (ck_nb G) σ i post) (hw : ck_H G s H locs σ) (hl : lv_has ls 1 [(0, .ref (ck_ad G 30 i))]) : W p l e ({ frames := 0, cells := 0, slots := 0, locals := 0 } : Room) s m args below meth c H locs 0 0 (MQ below (va_Qi post (ck_Q G) (ck_A G s.heap.size)) args s 0 0 (ck_A G s.heap.size)) (F0 m 0 ls []) := by
  obtain ⟨hx, hb, hr, hml, hown, hts, hlocks⟩ := id X
  have inX3 : ∀ w ∈ wsX30, w ∈ wsX3_isStale := fun _ h => List.mem_cons_of_mem _ (List.mem_append_right _ (h))
  unfold sp_X3_isStale at h
  refine lv_aload_n hx hb dX3_isStale_0 rfl (lv_at hl 0 rfl) ?_
  refine ck_get hx hb hts inX3 hown hw (hC.2 30 _ (by decide) (by decide) hi) rfl rfl 4 (by decide) (hts _ (List.mem_of_getElem? (i := 1) rfl)) rfl dX3_isStale_1 ?_
  obtain ⟨hA, hB⟩ := h
  refine lv_if_eq (tgt := 16) hx hb dX3_isStale_4 (by decide) (fun c1 => ?_) (fun c1 => ?_)
  · have h := hA c1
    refine lv_iconst (v := 1) hx hb dX3_isStale_16 (by decide) ?_
    refine lv_goto (tgt := 21) hx hb dX3_isStale_17 (by decide) ?_
    exact ck_zret X hw h dX3_isStale_21
  · have h := hB c1
    refine lv_aload_n hx hb dX3_isStale_7 rfl (lv_at hl 0 rfl) ?_
    refine ck_get hx hb hts inX3 hown hw (hC.2 30 _ (by decide) (by decide) hi) rfl rfl 5 (by decide) (hts _ (List.mem_of_getElem? (i := 2) rfl)) rfl dX3_isStale_8 ?_
    refine lv_bipush (v := 10) hx hb dX3_isStale_11 (by decide) ?_
    obtain ⟨hA, hB⟩ := h
    refine lv_icmp_le (tgt := 20) hx hb dX3_isStale_13 (by decide) (fun c2 => ?_) (fun c2 => ?_)
    · have h := hA c2
      refine lv_iconst (v := 0) hx hb dX3_isStale_20 (by decide) ?_
      exact ck_zret X hw h dX3_isStale_21
    · have h := hB c2
      refine lv_iconst (v := 1) hx hb dX3_isStale_16 (by decide) ?_
      refine lv_goto (tgt := 21) hx hb dX3_isStale_17 (by decide) ?_
      exact ck_zret X hw h dX3_isStale_21
set_option maxHeartbeats 4000000 in
set_option maxRecDepth 100000 in
theorem ct_X3_isStale (l : Launch) (G : ck_G) (hC : ck_inC G) {i : Nat} (hi : i < ck_nc G) {σ : ck_S} {post : Int32 → ck_S → Prop} (h : sp_X3_isStale (ck_nc G) (ck_nb G) σ i post) : ck_Mi l yX3_isStale wsX3_isStale ({ frames := 0, cells := 0, slots := 0, locals := 0 } : Room) G σ [.ref (ck_ad G 30 i)] post := by
  intro sz
  refine Met.ofW (cc := cX3_isStale) (maxL := 1) (ret := (some .boolean)) (by decide) rfl ?_
  intro p e s m args below meth c s₁ B hml hv
  obtain ⟨rfl, rfl, hw⟩ := ck_enter hv
  have hl := lv_entry ([.ref (ck_ad G 30 i)]) (n := 1) (Nat.le_of_ble_eq_true rfl)
  rw [lg_entry_eq]
  generalize (lg_sl ([.ref (ck_ad G 30 i)]) ++ List.replicate (1 - (lg_sl ([.ref (ck_ad G 30 i)])).length) Slot.unset).toArray = ls at hl ⊢
  have hl : lv_has ls 1 [(0, .ref (ck_ad G 30 i))] := hl
  exact wk_X3_isStale_0 ⟨B.exec, B.bytes, B.returns, hml, findClass_of_methodNamed B.named, atoms_spec (ws := wsX3_isStale) B.pre, B.notSynchronized⟩ hC hi h hw hl
def sp_X2_withByte_49 (nc nb : Nat) (post : Int32 → ck_S → Prop) (K5 : ck_S → Int32 → Int32 → Int32 → Prop) (σ : ck_S) (x1 : Int32) (x2 : Int32) (x3 : Int32) : Prop := ∀ x_1, x_1 = x3 + (-1) → K5 σ x1 x2 x_1
def sp_X2_withByte_28 (nc nb : Nat) (post : Int32 → ck_S → Prop) (K5 : ck_S → Int32 → Int32 → Int32 → Prop) (σ : ck_S) (x1 : Int32) (x2 : Int32) (x3 : Int32) (s0 : Int32) : Prop := ∀ x_1, x_1 = (x2 <<< (1 &&& 31)) &&& 32767 → ((s0 = 0 → (sp_X2_withByte_49 nc nb post K5 σ x1 x_1 x3)) ∧ (¬ s0 = 0 → (∀ x_3, x_3 = x_1 ^^^ 17817 → sp_X2_withByte_49 nc nb post K5 σ x1 x_3 x3)))
def bd_X2_withByte_5 (nc nb : Nat) (post : Int32 → ck_S → Prop) (K5 : ck_S → Int32 → Int32 → Int32 → Prop) (σ : ck_S) (x1 : Int32) (x2 : Int32) (x3 : Int32) : Prop := ((x3 < 0 → (post x2 σ)) ∧ (¬ x3 < 0 → ((((((x2.toUInt32 >>> ((14 : Int32).toUInt32 &&& Int32.toUInt32 31)).toInt32) &&& 1) = (((x1.toUInt32 >>> (x3.toUInt32 &&& Int32.toUInt32 31)).toInt32) &&& 1) → (sp_X2_withByte_28 nc nb post K5 σ x1 x2 x3 0)) ∧ (¬ (((x2.toUInt32 >>> ((14 : Int32).toUInt32 &&& Int32.toUInt32 31)).toInt32) &&& 1) = (((x1.toUInt32 >>> (x3.toUInt32 &&& Int32.toUInt32 31)).toInt32) &&& 1) → (sp_X2_withByte_28 nc nb post K5 σ x1 x2 x3 1))))))
def sp_X2_withByte (nc nb : Nat) (σ : ck_S) (a0 : Int32) (a1 : Int32) (post : Int32 → ck_S → Prop) : Prop := lx_4 (bd_X2_withByte_5 nc nb post) σ a1 a0 7
set_option maxHeartbeats 4000000 in
set_option maxRecDepth 100000 in
theorem wk_X2_withByte_49 {p : Program} {l : Launch} {e : Env} {s : State} {m : MethodId} {args : Array Value} {below : List Frame} {meth : Method} {c : Code} {G : ck_G} (X : ck_X p s m meth c args cX2_withByte 5 (some .int) RX2 wsX2_withByte) {post : Int32 → ck_S → Prop} {K5 : ck_S → Int32 → Int32 → Int32 → Prop} (hK5 : ∀ (σ : ck_S) (x1 : Int32) (x2 : Int32) (x3 : Int32) (H : Heap) (locs : List Loc) (ls : Array Slot), K5 σ x1 x2 x3 → ck_H G s H locs σ → lv_has ls 5 [(1, .int x1), (2, .int x2), (3, .int x3)] → W p l e ({ frames := 0, cells := 0, slots := 0, locals := 0 } : Room) s m args below meth c H locs 0 0 (MQ below (va_Qi post (ck_Q G) (ck_A G s.heap.size)) args s 0 0 (ck_A G s.heap.size)) (F0 m 5 ls [])) {σ : ck_S} {x1 : Int32} {x2 : Int32} {x3 : Int32} {H : Heap} {locs : List Loc} {ls : Array Slot} (h : sp_X2_withByte_49 (ck_nc G) (ck_nb G) post K5 σ x1 x2 x3) (hw : ck_H G s H locs σ) (hl : lv_has ls 5 [(1, .int x1), (2, .int x2), (3, .int x3)]) : W p l e ({ frames := 0, cells := 0, slots := 0, locals := 0 } : Room) s m args below meth c H locs 0 0 (MQ below (va_Qi post (ck_Q G) (ck_A G s.heap.size)) args s 0 0 (ck_A G s.heap.size)) (F0 m 49 ls []) := by
  obtain ⟨hx, hb, hr, hml, hown, hts, hlocks⟩ := id X
  unfold sp_X2_withByte_49 at h
  obtain ⟨x_1, ex_1⟩ : ∃ z : Int32, z = x3 + (-1) := ⟨_, rfl⟩
  have h := h x_1 ex_1
  refine lv_iinc (v := x_1) (lv' := [(3, .int x_1), (1, .int x1), (2, .int x2)]) hx hb dX2_withByte_49 hl (k := 2) rfl (by rw [ex_1]; rfl) (by decide) rfl (fun ls hl => ?_)
  refine lv_goto (tgt := 5) hx hb dX2_withByte_52 (by decide) ?_
  exact hK5 _ _ _ _ _ _ _ h hw (lv_sub hl [1, 2, 0] rfl)
set_option maxHeartbeats 4000000 in
set_option maxRecDepth 100000 in
theorem wk_X2_withByte_28 {p : Program} {l : Launch} {e : Env} {s : State} {m : MethodId} {args : Array Value} {below : List Frame} {meth : Method} {c : Code} {G : ck_G} (X : ck_X p s m meth c args cX2_withByte 5 (some .int) RX2 wsX2_withByte) {post : Int32 → ck_S → Prop} {K5 : ck_S → Int32 → Int32 → Int32 → Prop} (hK5 : ∀ (σ : ck_S) (x1 : Int32) (x2 : Int32) (x3 : Int32) (H : Heap) (locs : List Loc) (ls : Array Slot), K5 σ x1 x2 x3 → ck_H G s H locs σ → lv_has ls 5 [(1, .int x1), (2, .int x2), (3, .int x3)] → W p l e ({ frames := 0, cells := 0, slots := 0, locals := 0 } : Room) s m args below meth c H locs 0 0 (MQ below (va_Qi post (ck_Q G) (ck_A G s.heap.size)) args s 0 0 (ck_A G s.heap.size)) (F0 m 5 ls [])) {σ : ck_S} {x1 : Int32} {x2 : Int32} {x3 : Int32} {s0 : Int32} {H : Heap} {locs : List Loc} {ls : Array Slot} (h : sp_X2_withByte_28 (ck_nc G) (ck_nb G) post K5 σ x1 x2 x3 s0) (hw : ck_H G s H locs σ) (hl : lv_has ls 5 [(1, .int x1), (2, .int x2), (3, .int x3)]) : W p l e ({ frames := 0, cells := 0, slots := 0, locals := 0 } : Room) s m args below meth c H locs 0 0 (MQ below (va_Qi post (ck_Q G) (ck_A G s.heap.size)) args s 0 0 (ck_A G s.heap.size)) (F0 m 28 ls [.int s0]) := by
  obtain ⟨hx, hb, hr, hml, hown, hts, hlocks⟩ := id X
  unfold sp_X2_withByte_28 at h
  refine lv_istore (lv' := [(4, .int s0), (1, .int x1), (2, .int x2), (3, .int x3)]) hx hb dX2_withByte_28 hl (by decide) rfl (fun ls hl => ?_)
  refine lv_iload_n hx hb dX2_withByte_30 rfl (lv_at hl 2 rfl) ?_
  refine lv_iconst (v := 1) hx hb dX2_withByte_31 (by decide) ?_
  refine lv_ishl hx hb dX2_withByte_32 ?_
  refine lv_sipush (v := 32767) hx hb dX2_withByte_33 (by decide) ?_
  refine lv_iand hx hb dX2_withByte_36 ?_
  refine lv_topi (fun x_1 ex_1 => ?_)
  have h := h x_1 ex_1
  refine lv_istore_n (lv' := [(2, .int x_1), (4, .int s0), (1, .int x1), (3, .int x3)]) hx hb dX2_withByte_37 rfl hl (by decide) rfl (fun ls hl => ?_)
  refine lv_iload hx hb dX2_withByte_38 (lv_at hl 1 rfl) ?_
  obtain ⟨hA, hB⟩ := h
  refine lv_if_eq (tgt := 49) hx hb dX2_withByte_40 (by decide) (fun c2 => ?_) (fun c2 => ?_)
  · have h := hA c2
    exact wk_X2_withByte_49 X hK5 h hw (lv_sub hl [2, 0, 3] rfl)
  · have h := hB c2
    refine lv_iload_n hx hb dX2_withByte_43 rfl (lv_at hl 0 rfl) ?_
    refine lv_sipush (v := 17817) hx hb dX2_withByte_44 (by decide) ?_
    refine lv_ixor hx hb dX2_withByte_47 ?_
    refine lv_topi (fun x_3 ex_3 => ?_)
    have h := h x_3 ex_3
    refine lv_istore_n (lv' := [(2, .int x_3), (4, .int s0), (1, .int x1), (3, .int x3)]) hx hb dX2_withByte_48 rfl hl (by decide) rfl (fun ls hl => ?_)
    exact wk_X2_withByte_49 X hK5 h hw (lv_sub hl [2, 0, 3] rfl)
set_option maxHeartbeats 4000000 in
set_option maxRecDepth 100000 in
theorem wk_X2_withByte_5 {p : Program} {l : Launch} {e : Env} {s : State} {m : MethodId} {args : Array Value} {below : List Frame} {meth : Method} {c : Code} {G : ck_G} (X : ck_X p s m meth c args cX2_withByte 5 (some .int) RX2 wsX2_withByte) {post : Int32 → ck_S → Prop} : ∀ (fu : Nat) (σ : ck_S) (x1 : Int32) (x2 : Int32) (x3 : Int32) (H : Heap) (locs : List Loc) (ls : Array Slot), lk_4 (bd_X2_withByte_5 (ck_nc G) (ck_nb G) post) fu σ x1 x2 x3 → ck_H G s H locs σ → lv_has ls 5 [(1, .int x1), (2, .int x2), (3, .int x3)] → W p l e ({ frames := 0, cells := 0, slots := 0, locals := 0 } : Room) s m args below meth c H locs 0 0 (MQ below (va_Qi post (ck_Q G) (ck_A G s.heap.size)) args s 0 0 (ck_A G s.heap.size)) (F0 m 5 ls []) := by
  obtain ⟨hx, hb, hr, hml, hown, hts, hlocks⟩ := id X
  intro fu
  induction fu with
  | zero => intro σ x1 x2 x3 H locs ls h hw hl; exact h.elim
  | succ fu hK5 =>
    intro σ x1 x2 x3 H locs ls h hw hl
    have h : bd_X2_withByte_5 (ck_nc G) (ck_nb G) post (lk_4 (bd_X2_withByte_5 (ck_nc G) (ck_nb G) post) fu) σ x1 x2 x3 := h
    unfold bd_X2_withByte_5 at h
    refine lv_iload_n hx hb dX2_withByte_5 rfl (lv_at hl 2 rfl) ?_
    obtain ⟨hA, hB⟩ := h
    refine lv_if_lt (tgt := 55) hx hb dX2_withByte_6 (by decide) (fun c1 => ?_) (fun c1 => ?_)
    · have h := hA c1
      refine lv_iload_n hx hb dX2_withByte_55 rfl (lv_at hl 1 rfl) ?_
      exact ck_iret X hw h dX2_withByte_56
    · have h := hB c1
      refine lv_iload_n hx hb dX2_withByte_9 rfl (lv_at hl 1 rfl) ?_
      refine lv_bipush (v := 14) hx hb dX2_withByte_10 (by decide) ?_
      refine lv_iushr hx hb dX2_withByte_12 rfl ?_
      refine lv_iconst (v := 1) hx hb dX2_withByte_13 (by decide) ?_
      refine lv_iand hx hb dX2_withByte_14 ?_
      refine lv_iload_n hx hb dX2_withByte_15 rfl (lv_at hl 0 rfl) ?_
      refine lv_iload_n hx hb dX2_withByte_16 rfl (lv_at hl 2 rfl) ?_
      refine lv_iushr hx hb dX2_withByte_17 rfl ?_
      refine lv_iconst (v := 1) hx hb dX2_withByte_18 (by decide) ?_
      refine lv_iand hx hb dX2_withByte_19 ?_
      obtain ⟨hA, hB⟩ := h
      refine lv_icmp_eq (tgt := 27) hx hb dX2_withByte_20 (by decide) (fun c2 => ?_) (fun c2 => ?_)
      · have h := hA c2
        refine lv_iconst (v := 0) hx hb dX2_withByte_27 (by decide) ?_
        exact wk_X2_withByte_28 X hK5 h hw (lv_sub hl [0, 1, 2] rfl)
      · have h := hB c2
        refine lv_iconst (v := 1) hx hb dX2_withByte_23 (by decide) ?_
        refine lv_goto (tgt := 28) hx hb dX2_withByte_24 (by decide) ?_
        exact wk_X2_withByte_28 X hK5 h hw (lv_sub hl [0, 1, 2] rfl)
set_option maxHeartbeats 4000000 in
set_option maxRecDepth 100000 in
theorem wk_X2_withByte_0 {p : Program} {l : Launch} {e : Env} {s : State} {m : MethodId} {args : Array Value} {below : List Frame} {meth : Method} {c : Code} {G : ck_G} (X : ck_X p s m meth c args cX2_withByte 5 (some .int) RX2 wsX2_withByte) {post : Int32 → ck_S → Prop} {σ : ck_S} {a0 : Int32} {a1 : Int32} {H : Heap} {locs : List Loc} {ls : Array Slot} (h : sp_X2_withByte (ck_nc G) (ck_nb G) σ a0 a1 post) (hw : ck_H G s H locs σ) (hl : lv_has ls 5 [(0, .int a0), (1, .int a1)]) : W p l e ({ frames := 0, cells := 0, slots := 0, locals := 0 } : Room) s m args below meth c H locs 0 0 (MQ below (va_Qi post (ck_Q G) (ck_A G s.heap.size)) args s 0 0 (ck_A G s.heap.size)) (F0 m 0 ls []) := by
  obtain ⟨hx, hb, hr, hml, hown, hts, hlocks⟩ := id X
  unfold sp_X2_withByte at h
  refine lv_iload_n hx hb dX2_withByte_0 rfl (lv_at hl 0 rfl) ?_
  refine lv_istore_n (lv' := [(2, .int a0), (0, .int a0), (1, .int a1)]) hx hb dX2_withByte_1 rfl hl (by decide) rfl (fun ls hl => ?_)
  refine lv_bipush (v := 7) hx hb dX2_withByte_2 (by decide) ?_
  refine lv_istore_n (lv' := [(3, .int 7), (2, .int a0), (0, .int a0), (1, .int a1)]) hx hb dX2_withByte_4 rfl hl (by decide) rfl (fun ls hl => ?_)
  obtain ⟨fu, h⟩ := h
  exact wk_X2_withByte_5 X fu _ _ _ _ _ _ _ h hw (lv_sub hl [3, 1, 0] rfl)
set_option maxHeartbeats 4000000 in
set_option maxRecDepth 100000 in
theorem ct_X2_withByte (l : Launch) (G : ck_G) {a0 : Int32} {a1 : Int32} {σ : ck_S} {post : Int32 → ck_S → Prop} (h : sp_X2_withByte (ck_nc G) (ck_nb G) σ a0 a1 post) : ck_Mi l yX2_withByte wsX2_withByte ({ frames := 0, cells := 0, slots := 0, locals := 0 } : Room) G σ [.int a0, .int a1] post := by
  intro sz
  refine Met.ofW (cc := cX2_withByte) (maxL := 5) (ret := (some .int)) (by decide) rfl ?_
  intro p e s m args below meth c s₁ B hml hv
  obtain ⟨rfl, rfl, hw⟩ := ck_enter hv
  have hl := lv_entry ([.int a0, .int a1]) (n := 5) (Nat.le_of_ble_eq_true rfl)
  rw [lg_entry_eq]
  generalize (lg_sl ([.int a0, .int a1]) ++ List.replicate (5 - (lg_sl ([.int a0, .int a1])).length) Slot.unset).toArray = ls at hl ⊢
  have hl : lv_has ls 5 [(0, .int a0), (1, .int a1)] := hl
  exact wk_X2_withByte_0 ⟨B.exec, B.bytes, B.returns, hml, findClass_of_methodNamed B.named, atoms_spec (ws := wsX2_withByte) B.pre, B.notSynchronized⟩ h hw hl
def bd_X2_ofReply_34 (nc nb : Nat) (post : Int32 → ck_S → Prop) (K34 : ck_S → Int64 → Int32 → Int32 → Prop) (σ : ck_S) (x2 : Int64) (x4 : Int32) (x5 : Int32) : Prop := ((x5 < 16 → (post x4 σ)) ∧ (¬ x5 < 16 → (sp_X2_withByte nc nb σ x4 (((x2.toUInt64 >>> (x5.toInt64.toUInt64 &&& Int64.toUInt64 63)).toInt64).toInt32) (fun x_3 σ2 => ∀ x_4, x_4 = x5 + (-8) → K34 σ2 x2 x_3 x_4))))
def bd_X2_ofReply_7 (nc nb : Nat) (post : Int32 → ck_S → Prop) (K7 : ck_S → Int64 → Int64 → Int32 → Int32 → Prop) (σ : ck_S) (x0 : Int64) (x2 : Int64) (x4 : Int32) (x5 : Int32) : Prop := ((x5 < 0 → (lx_4 (bd_X2_ofReply_34 nc nb post) σ x2 x4 56)) ∧ (¬ x5 < 0 → (sp_X2_withByte nc nb σ x4 (((x0.toUInt64 >>> (x5.toInt64.toUInt64 &&& Int64.toUInt64 63)).toInt64).toInt32) (fun x_3 σ2 => ∀ x_4, x_4 = x5 + (-8) → K7 σ2 x0 x2 x_3 x_4))))
def sp_X2_ofReply (nc nb : Nat) (σ : ck_S) (a0 : Int64) (a1 : Int64) (post : Int32 → ck_S → Prop) : Prop := lx_5 (bd_X2_ofReply_7 nc nb post) σ a0 a1 0 56
set_option maxHeartbeats 4000000 in
set_option maxRecDepth 100000 in
theorem wk_X2_ofReply_34 {p : Program} {l : Launch} {e : Env} {s : State} {m : MethodId} {args : Array Value} {below : List Frame} {meth : Method} {c : Code} {G : ck_G} (X : ck_X p s m meth c args cX2_ofReply 6 (some .int) RX2 wsX2_ofReply) {post : Int32 → ck_S → Prop} : ∀ (fu : Nat) (σ : ck_S) (x2 : Int64) (x4 : Int32) (x5 : Int32) (H : Heap) (locs : List Loc) (ls : Array Slot), lk_4 (bd_X2_ofReply_34 (ck_nc G) (ck_nb G) post) fu σ x2 x4 x5 → ck_H G s H locs σ → lv_has ls 6 [(2, .long x2), (4, .int x4), (5, .int x5)] → W p l e ({ frames := 1, cells := 0, slots := 0, locals := 24 } : Room) s m args below meth c H locs 0 0 (MQ below (va_Qi post (ck_Q G) (ck_A G s.heap.size)) args s 0 0 (ck_A G s.heap.size)) (F0 m 34 ls []) := by
  obtain ⟨hx, hb, hr, hml, hown, hts, hlocks⟩ := id X
  intro fu
  induction fu with
  | zero => intro σ x2 x4 x5 H locs ls h hw hl; exact h.elim
  | succ fu hK34 =>
    intro σ x2 x4 x5 H locs ls h hw hl
    have h : bd_X2_ofReply_34 (ck_nc G) (ck_nb G) post (lk_4 (bd_X2_ofReply_34 (ck_nc G) (ck_nb G) post) fu) σ x2 x4 x5 := h
    unfold bd_X2_ofReply_34 at h
    refine lv_iload hx hb dX2_ofReply_34 (lv_at hl 2 rfl) ?_
    refine lv_bipush (v := 16) hx hb dX2_ofReply_36 (by decide) ?_
    obtain ⟨hA, hB⟩ := h
    refine lv_icmp_lt (tgt := 59) hx hb dX2_ofReply_38 (by decide) (fun c1 => ?_) (fun c1 => ?_)
    · have h := hA c1
      refine lv_iload hx hb dX2_ofReply_59 (lv_at hl 1 rfl) ?_
      exact ck_iret X hw h dX2_ofReply_61
    · have h := hB c1
      refine lv_iload hx hb dX2_ofReply_41 (lv_at hl 1 rfl) ?_
      refine lv_lload_n hx hb dX2_ofReply_43 rfl (lv_at hl 0 rfl) ?_
      refine lv_iload hx hb dX2_ofReply_44 (lv_at hl 2 rfl) ?_
      refine lv_lushr hx hb dX2_ofReply_46 rfl ?_
      refine lv_l2i hx hb dX2_ofReply_47 rfl ?_
      refine ck_callSi (rest := []) ⟨hx, hb, hml, hown, hts⟩ hw (ct_X2_withByte l G h) (va_cwS 2 hts gX2_ofReply_X2_withByte rfl rfl rfl (by decide +kernel) ⟨(Nat.le_of_ble_eq_true rfl), (Nat.le_of_ble_eq_true rfl)⟩) rfl hl.1 rfl (Nat.le_of_ble_eq_true rfl) dX2_ofReply_48 ⟨Nat.zero_le _, Nat.zero_le _⟩ (fun x_3 σ2 H locs h hw => ?_)
      refine lv_istore (lv' := [(4, .int x_3), (2, .long x2), (5, .int x5)]) hx hb dX2_ofReply_51 hl (by decide) rfl (fun ls hl => ?_)
      obtain ⟨x_4, ex_4⟩ : ∃ z : Int32, z = x5 + (-8) := ⟨_, rfl⟩
      have h := h x_4 ex_4
      refine lv_iinc (v := x_4) (lv' := [(5, .int x_4), (4, .int x_3), (2, .long x2)]) hx hb dX2_ofReply_53 hl (k := 2) rfl (by rw [ex_4]; rfl) (by decide) rfl (fun ls hl => ?_)
      refine lv_goto (tgt := 34) hx hb dX2_ofReply_56 (by decide) ?_
      exact hK34 _ _ _ _ _ _ _ h hw (lv_sub hl [2, 1, 0] rfl)
set_option maxHeartbeats 4000000 in
set_option maxRecDepth 100000 in
theorem wk_X2_ofReply_7 {p : Program} {l : Launch} {e : Env} {s : State} {m : MethodId} {args : Array Value} {below : List Frame} {meth : Method} {c : Code} {G : ck_G} (X : ck_X p s m meth c args cX2_ofReply 6 (some .int) RX2 wsX2_ofReply) {post : Int32 → ck_S → Prop} : ∀ (fu : Nat) (σ : ck_S) (x0 : Int64) (x2 : Int64) (x4 : Int32) (x5 : Int32) (H : Heap) (locs : List Loc) (ls : Array Slot), lk_5 (bd_X2_ofReply_7 (ck_nc G) (ck_nb G) post) fu σ x0 x2 x4 x5 → ck_H G s H locs σ → lv_has ls 6 [(0, .long x0), (2, .long x2), (4, .int x4), (5, .int x5)] → W p l e ({ frames := 1, cells := 0, slots := 0, locals := 24 } : Room) s m args below meth c H locs 0 0 (MQ below (va_Qi post (ck_Q G) (ck_A G s.heap.size)) args s 0 0 (ck_A G s.heap.size)) (F0 m 7 ls []) := by
  obtain ⟨hx, hb, hr, hml, hown, hts, hlocks⟩ := id X
  intro fu
  induction fu with
  | zero => intro σ x0 x2 x4 x5 H locs ls h hw hl; exact h.elim
  | succ fu hK7 =>
    intro σ x0 x2 x4 x5 H locs ls h hw hl
    have h : bd_X2_ofReply_7 (ck_nc G) (ck_nb G) post (lk_5 (bd_X2_ofReply_7 (ck_nc G) (ck_nb G) post) fu) σ x0 x2 x4 x5 := h
    unfold bd_X2_ofReply_7 at h
    refine lv_iload hx hb dX2_ofReply_7 (lv_at hl 3 rfl) ?_
    obtain ⟨hA, hB⟩ := h
    refine lv_if_lt (tgt := 30) hx hb dX2_ofReply_9 (by decide) (fun c1 => ?_) (fun c1 => ?_)
    · have h := hA c1
      refine lv_bipush (v := 56) hx hb dX2_ofReply_30 (by decide) ?_
      refine lv_istore (lv' := [(5, .int 56), (0, .long x0), (2, .long x2), (4, .int x4)]) hx hb dX2_ofReply_32 hl (by decide) rfl (fun ls hl => ?_)
      obtain ⟨fu, h⟩ := h
      exact wk_X2_ofReply_34 X fu _ _ _ _ _ _ _ h hw (lv_sub hl [2, 3, 0] rfl)
    · have h := hB c1
      refine lv_iload hx hb dX2_ofReply_12 (lv_at hl 2 rfl) ?_
      refine lv_lload_n hx hb dX2_ofReply_14 rfl (lv_at hl 0 rfl) ?_
      refine lv_iload hx hb dX2_ofReply_15 (lv_at hl 3 rfl) ?_
      refine lv_lushr hx hb dX2_ofReply_17 rfl ?_
      refine lv_l2i hx hb dX2_ofReply_18 rfl ?_
      refine ck_callSi (rest := []) ⟨hx, hb, hml, hown, hts⟩ hw (ct_X2_withByte l G h) (va_cwS 2 hts gX2_ofReply_X2_withByte rfl rfl rfl (by decide +kernel) ⟨(Nat.le_of_ble_eq_true rfl), (Nat.le_of_ble_eq_true rfl)⟩) rfl hl.1 rfl (Nat.le_of_ble_eq_true rfl) dX2_ofReply_19 ⟨Nat.zero_le _, Nat.zero_le _⟩ (fun x_3 σ2 H locs h hw => ?_)
      refine lv_istore (lv' := [(4, .int x_3), (0, .long x0), (2, .long x2), (5, .int x5)]) hx hb dX2_ofReply_22 hl (by decide) rfl (fun ls hl => ?_)
      obtain ⟨x_4, ex_4⟩ : ∃ z : Int32, z = x5 + (-8) := ⟨_, rfl⟩
      have h := h x_4 ex_4
      refine lv_iinc (v := x_4) (lv' := [(5, .int x_4), (4, .int x_3), (0, .long x0), (2, .long x2)]) hx hb dX2_ofReply_24 hl (k := 3) rfl (by rw [ex_4]; rfl) (by decide) rfl (fun ls hl => ?_)
      refine lv_goto (tgt := 7) hx hb dX2_ofReply_27 (by decide) ?_
      exact hK7 _ _ _ _ _ _ _ _ h hw (lv_sub hl [2, 3, 1, 0] rfl)
set_option maxHeartbeats 4000000 in
set_option maxRecDepth 100000 in
theorem wk_X2_ofReply_0 {p : Program} {l : Launch} {e : Env} {s : State} {m : MethodId} {args : Array Value} {below : List Frame} {meth : Method} {c : Code} {G : ck_G} (X : ck_X p s m meth c args cX2_ofReply 6 (some .int) RX2 wsX2_ofReply) {post : Int32 → ck_S → Prop} {σ : ck_S} {a0 : Int64} {a1 : Int64} {H : Heap} {locs : List Loc} {ls : Array Slot} (h : sp_X2_ofReply (ck_nc G) (ck_nb G) σ a0 a1 post) (hw : ck_H G s H locs σ) (hl : lv_has ls 6 [(0, .long a0), (2, .long a1)]) : W p l e ({ frames := 1, cells := 0, slots := 0, locals := 24 } : Room) s m args below meth c H locs 0 0 (MQ below (va_Qi post (ck_Q G) (ck_A G s.heap.size)) args s 0 0 (ck_A G s.heap.size)) (F0 m 0 ls []) := by
  obtain ⟨hx, hb, hr, hml, hown, hts, hlocks⟩ := id X
  unfold sp_X2_ofReply at h
  refine lv_iconst (v := 0) hx hb dX2_ofReply_0 (by decide) ?_
  refine lv_istore (lv' := [(4, .int 0), (0, .long a0), (2, .long a1)]) hx hb dX2_ofReply_1 hl (by decide) rfl (fun ls hl => ?_)
  refine lv_bipush (v := 56) hx hb dX2_ofReply_3 (by decide) ?_
  refine lv_istore (lv' := [(5, .int 56), (4, .int 0), (0, .long a0), (2, .long a1)]) hx hb dX2_ofReply_5 hl (by decide) rfl (fun ls hl => ?_)
  obtain ⟨fu, h⟩ := h
  exact wk_X2_ofReply_7 X fu _ _ _ _ _ _ _ _ h hw (lv_sub hl [2, 3, 1, 0] rfl)
set_option maxHeartbeats 4000000 in
set_option maxRecDepth 100000 in
theorem ct_X2_ofReply (l : Launch) (G : ck_G) {a0 : Int64} {a1 : Int64} {σ : ck_S} {post : Int32 → ck_S → Prop} (h : sp_X2_ofReply (ck_nc G) (ck_nb G) σ a0 a1 post) : ck_Mi l yX2_ofReply wsX2_ofReply ({ frames := 1, cells := 0, slots := 0, locals := 24 } : Room) G σ [.long a0, .long a1] post := by
  intro sz
  refine Met.ofW (cc := cX2_ofReply) (maxL := 6) (ret := (some .int)) (by decide) rfl ?_
  intro p e s m args below meth c s₁ B hml hv
  obtain ⟨rfl, rfl, hw⟩ := ck_enter hv
  have hl := lv_entry ([.long a0, .long a1]) (n := 6) (Nat.le_of_ble_eq_true rfl)
  rw [lg_entry_eq]
  generalize (lg_sl ([.long a0, .long a1]) ++ List.replicate (6 - (lg_sl ([.long a0, .long a1])).length) Slot.unset).toArray = ls at hl ⊢
  have hl : lv_has ls 6 [(0, .long a0), (2, .long a1)] := hl
  exact wk_X2_ofReply_0 ⟨B.exec, B.bytes, B.returns, hml, findClass_of_methodNamed B.named, atoms_spec (ws := wsX2_ofReply) B.pre, B.notSynchronized⟩ h hw hl
def sp_X0_isLatched (nc nb : Nat) (σ : ck_S) (a0 : Int32) (post : Int32 → ck_S → Prop) : Prop := ((((((ck_gi σ 3 0 2).toUInt32 >>> (a0.toUInt32 &&& Int32.toUInt32 31)).toInt32) &&& 1) = 0 → ((ck_b 0 ∧ post 0 σ))) ∧ (¬ ((((ck_gi σ 3 0 2).toUInt32 >>> (a0.toUInt32 &&& Int32.toUInt32 31)).toInt32) &&& 1) = 0 → ((ck_b 1 ∧ post 1 σ))))
set_option maxHeartbeats 4000000 in
set_option maxRecDepth 100000 in
theorem wk_X0_isLatched_0 {p : Program} {l : Launch} {e : Env} {s : State} {m : MethodId} {args : Array Value} {below : List Frame} {meth : Method} {c : Code} {G : ck_G} (X : ck_X p s m meth c args cX0_isLatched 2 (some .boolean) RX0 wsX0_isLatched) (hC : ck_inC G) {post : Int32 → ck_S → Prop} {σ : ck_S} {a0 : Int32} {H : Heap} {locs : List Loc} {ls : Array Slot} (h : sp_X0_isLatched (ck_nc G) (ck_nb G) σ a0 post) (hw : ck_H G s H locs σ) (hl : lv_has ls 2 [(0, .ref (ck_ad G 3 0)), (1, .int a0)]) : W p l e ({ frames := 0, cells := 0, slots := 0, locals := 0 } : Room) s m args below meth c H locs 0 0 (MQ below (va_Qi post (ck_Q G) (ck_A G s.heap.size)) args s 0 0 (ck_A G s.heap.size)) (F0 m 0 ls []) := by
  obtain ⟨hx, hb, hr, hml, hown, hts, hlocks⟩ := id X
  have inX0 : ∀ w ∈ wsX00, w ∈ wsX0_isLatched := fun _ h => List.mem_cons_of_mem _ (List.mem_append_right _ (h))
  unfold sp_X0_isLatched at h
  refine lv_aload_n hx hb dX0_isLatched_0 rfl (lv_at hl 0 rfl) ?_
  refine ck_get hx hb hts inX0 hown hw (hC.1 3 (by decide)) rfl rfl 2 (by decide) (hts _ (List.mem_of_getElem? (i := 1) rfl)) rfl dX0_isLatched_1 ?_
  refine lv_iload_n hx hb dX0_isLatched_4 rfl (lv_at hl 1 rfl) ?_
  refine lv_iushr hx hb dX0_isLatched_5 rfl ?_
  refine lv_iconst (v := 1) hx hb dX0_isLatched_6 (by decide) ?_
  refine lv_iand hx hb dX0_isLatched_7 ?_
  obtain ⟨hA, hB⟩ := h
  refine lv_if_eq (tgt := 15) hx hb dX0_isLatched_8 (by decide) (fun c1 => ?_) (fun c1 => ?_)
  · have h := hA c1
    refine lv_iconst (v := 0) hx hb dX0_isLatched_15 (by decide) ?_
    exact ck_zret X hw h dX0_isLatched_16
  · have h := hB c1
    refine lv_iconst (v := 1) hx hb dX0_isLatched_11 (by decide) ?_
    refine lv_goto (tgt := 16) hx hb dX0_isLatched_12 (by decide) ?_
    exact ck_zret X hw h dX0_isLatched_16
set_option maxHeartbeats 4000000 in
set_option maxRecDepth 100000 in
theorem ct_X0_isLatched (l : Launch) (G : ck_G) (hC : ck_inC G) {a0 : Int32} {σ : ck_S} {post : Int32 → ck_S → Prop} (h : sp_X0_isLatched (ck_nc G) (ck_nb G) σ a0 post) : ck_Mi l yX0_isLatched wsX0_isLatched ({ frames := 0, cells := 0, slots := 0, locals := 0 } : Room) G σ [.ref (ck_ad G 3 0), .int a0] post := by
  intro sz
  refine Met.ofW (cc := cX0_isLatched) (maxL := 2) (ret := (some .boolean)) (by decide) rfl ?_
  intro p e s m args below meth c s₁ B hml hv
  obtain ⟨rfl, rfl, hw⟩ := ck_enter hv
  have hl := lv_entry ([.ref (ck_ad G 3 0), .int a0]) (n := 2) (Nat.le_of_ble_eq_true rfl)
  rw [lg_entry_eq]
  generalize (lg_sl ([.ref (ck_ad G 3 0), .int a0]) ++ List.replicate (2 - (lg_sl ([.ref (ck_ad G 3 0), .int a0])).length) Slot.unset).toArray = ls at hl ⊢
  have hl : lv_has ls 2 [(0, .ref (ck_ad G 3 0)), (1, .int a0)] := hl
  exact wk_X0_isLatched_0 ⟨B.exec, B.bytes, B.returns, hml, findClass_of_methodNamed B.named, atoms_spec (ws := wsX0_isLatched) B.pre, B.notSynchronized⟩ hC h hw hl
end
