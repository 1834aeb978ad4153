-- ===== PART A: goes FIRST, ahead of the names: the tables' words, and 'selects' of the private methods out of them =====
/-- a private method of a class that the tables say can be made, by its rows of tables_1 -/
def lw_okq (q : MethodName × Nat) : Prop := (q.1.cls ≠ "java/lang/invoke/MethodHandle" ∧ q.1.cls ≠ "java/lang/invoke/VarHandle") ∧ Cond.instantiable q.1.cls q.2 ∈ tables_1 ∧ Cond.privateMethod q.1 ∈ tables_1 ∧ Cond.instanceMethod q.1 ∈ tables_1
theorem lw_p0 : lw_okq (⟨"OrchestraYear$Reader", "advance", "()V"⟩, 12) := ⟨⟨by decide +kernel, by decide +kernel⟩, List.mem_of_getElem? (i := 40) (by decide +kernel), List.mem_of_getElem? (i := 255) (by decide +kernel), List.mem_of_getElem? (i := 256) (by decide +kernel)⟩
theorem lw_p1 : lw_okq (⟨"OrchestraYear$Reader", "takeWord", "()V"⟩, 12) := ⟨⟨by decide +kernel, by decide +kernel⟩, List.mem_of_getElem? (i := 40) (by decide +kernel), List.mem_of_getElem? (i := 265) (by decide +kernel), List.mem_of_getElem? (i := 266) (by decide +kernel)⟩
theorem lw_p2 : lw_okq (⟨"OrchestraYear$Reader", "spells", "(I)Z"⟩, 12) := ⟨⟨by decide +kernel, by decide +kernel⟩, List.mem_of_getElem? (i := 40) (by decide +kernel), List.mem_of_getElem? (i := 269) (by decide +kernel), List.mem_of_getElem? (i := 270) (by decide +kernel)⟩
theorem lw_p3 : lw_okq (⟨"OrchestraYear$Reader", "takeNumber", "()V"⟩, 12) := ⟨⟨by decide +kernel, by decide +kernel⟩, List.mem_of_getElem? (i := 40) (by decide +kernel), List.mem_of_getElem? (i := 278) (by decide +kernel), List.mem_of_getElem? (i := 279) (by decide +kernel)⟩
theorem lw_p4 : lw_okq (⟨"OrchestraYear$Reader", "takeSign", "()V"⟩, 12) := ⟨⟨by decide +kernel, by decide +kernel⟩, List.mem_of_getElem? (i := 40) (by decide +kernel), List.mem_of_getElem? (i := 282) (by decide +kernel), List.mem_of_getElem? (i := 283) (by decide +kernel)⟩
theorem lw_p5 : lw_okq (⟨"OrchestraYear$Reader", "readPart", "(I)V"⟩, 12) := ⟨⟨by decide +kernel, by decide +kernel⟩, List.mem_of_getElem? (i := 40) (by decide +kernel), List.mem_of_getElem? (i := 346) (by decide +kernel), List.mem_of_getElem? (i := 347) (by decide +kernel)⟩
theorem lw_p6 : lw_okq (⟨"OrchestraYear$Reader", "expect", "(I)V"⟩, 12) := ⟨⟨by decide +kernel, by decide +kernel⟩, List.mem_of_getElem? (i := 40) (by decide +kernel), List.mem_of_getElem? (i := 350) (by decide +kernel), List.mem_of_getElem? (i := 351) (by decide +kernel)⟩
theorem lw_p7 : lw_okq (⟨"OrchestraYear$Reader", "fail", "()V"⟩, 12) := ⟨⟨by decide +kernel, by decide +kernel⟩, List.mem_of_getElem? (i := 40) (by decide +kernel), List.mem_of_getElem? (i := 354) (by decide +kernel), List.mem_of_getElem? (i := 355) (by decide +kernel)⟩
theorem lw_p8 : lw_okq (⟨"OrchestraYear$Reader", "readOr", "()V"⟩, 12) := ⟨⟨by decide +kernel, by decide +kernel⟩, List.mem_of_getElem? (i := 40) (by decide +kernel), List.mem_of_getElem? (i := 358) (by decide +kernel), List.mem_of_getElem? (i := 359) (by decide +kernel)⟩
theorem lw_p9 : lw_okq (⟨"OrchestraYear$Reader", "readAnd", "()V"⟩, 12) := ⟨⟨by decide +kernel, by decide +kernel⟩, List.mem_of_getElem? (i := 40) (by decide +kernel), List.mem_of_getElem? (i := 362) (by decide +kernel), List.mem_of_getElem? (i := 363) (by decide +kernel)⟩
theorem lw_p10 : lw_okq (⟨"OrchestraYear$Reader", "readNot", "()V"⟩, 12) := ⟨⟨by decide +kernel, by decide +kernel⟩, List.mem_of_getElem? (i := 40) (by decide +kernel), List.mem_of_getElem? (i := 366) (by decide +kernel), List.mem_of_getElem? (i := 367) (by decide +kernel)⟩
theorem lw_p11 : lw_okq (⟨"OrchestraYear$Reader", "openOne", "()Z"⟩, 12) := ⟨⟨by decide +kernel, by decide +kernel⟩, List.mem_of_getElem? (i := 40) (by decide +kernel), List.mem_of_getElem? (i := 370) (by decide +kernel), List.mem_of_getElem? (i := 371) (by decide +kernel)⟩
theorem lw_p12 : lw_okq (⟨"OrchestraYear$Reader", "emitToken", "(I)V"⟩, 12) := ⟨⟨by decide +kernel, by decide +kernel⟩, List.mem_of_getElem? (i := 40) (by decide +kernel), List.mem_of_getElem? (i := 374) (by decide +kernel), List.mem_of_getElem? (i := 375) (by decide +kernel)⟩
theorem lw_p13 : lw_okq (⟨"OrchestraYear$Reader", "emit", "(I)V"⟩, 12) := ⟨⟨by decide +kernel, by decide +kernel⟩, List.mem_of_getElem? (i := 40) (by decide +kernel), List.mem_of_getElem? (i := 378) (by decide +kernel), List.mem_of_getElem? (i := 379) (by decide +kernel)⟩
theorem lw_p14 : lw_okq (⟨"OrchestraYear$Reader", "readSum", "()V"⟩, 12) := ⟨⟨by decide +kernel, by decide +kernel⟩, List.mem_of_getElem? (i := 40) (by decide +kernel), List.mem_of_getElem? (i := 382) (by decide +kernel), List.mem_of_getElem? (i := 383) (by decide +kernel)⟩
theorem lw_p15 : lw_okq (⟨"OrchestraYear$Reader", "readTerm", "()V"⟩, 12) := ⟨⟨by decide +kernel, by decide +kernel⟩, List.mem_of_getElem? (i := 40) (by decide +kernel), List.mem_of_getElem? (i := 386) (by decide +kernel), List.mem_of_getElem? (i := 387) (by decide +kernel)⟩
def lw_privs_1 : List (MethodName × Nat) := [(⟨"OrchestraYear$Reader", "advance", "()V"⟩, 12), (⟨"OrchestraYear$Reader", "takeWord", "()V"⟩, 12), (⟨"OrchestraYear$Reader", "spells", "(I)Z"⟩, 12), (⟨"OrchestraYear$Reader", "takeNumber", "()V"⟩, 12), (⟨"OrchestraYear$Reader", "takeSign", "()V"⟩, 12), (⟨"OrchestraYear$Reader", "readPart", "(I)V"⟩, 12), (⟨"OrchestraYear$Reader", "expect", "(I)V"⟩, 12), (⟨"OrchestraYear$Reader", "fail", "()V"⟩, 12), (⟨"OrchestraYear$Reader", "readOr", "()V"⟩, 12), (⟨"OrchestraYear$Reader", "readAnd", "()V"⟩, 12), (⟨"OrchestraYear$Reader", "readNot", "()V"⟩, 12), (⟨"OrchestraYear$Reader", "openOne", "()Z"⟩, 12), (⟨"OrchestraYear$Reader", "emitToken", "(I)V"⟩, 12), (⟨"OrchestraYear$Reader", "emit", "(I)V"⟩, 12), (⟨"OrchestraYear$Reader", "readSum", "()V"⟩, 12), (⟨"OrchestraYear$Reader", "readTerm", "()V"⟩, 12)]
theorem lw_r1 : ∀ q ∈ lw_privs_1, lw_okq q := List.forall_mem_cons.mpr ⟨lw_p0, List.forall_mem_cons.mpr ⟨lw_p1, List.forall_mem_cons.mpr ⟨lw_p2, List.forall_mem_cons.mpr ⟨lw_p3, List.forall_mem_cons.mpr ⟨lw_p4, List.forall_mem_cons.mpr ⟨lw_p5, List.forall_mem_cons.mpr ⟨lw_p6, List.forall_mem_cons.mpr ⟨lw_p7, List.forall_mem_cons.mpr ⟨lw_p8, List.forall_mem_cons.mpr ⟨lw_p9, List.forall_mem_cons.mpr ⟨lw_p10, List.forall_mem_cons.mpr ⟨lw_p11, List.forall_mem_cons.mpr ⟨lw_p12, List.forall_mem_cons.mpr ⟨lw_p13, List.forall_mem_cons.mpr ⟨lw_p14, List.forall_mem_cons.mpr ⟨lw_p15, fun _ h => absurd h List.not_mem_nil⟩⟩⟩⟩⟩⟩⟩⟩⟩⟩⟩⟩⟩⟩⟩⟩
theorem lw_p16 : lw_okq (⟨"OrchestraYear$Reader", "readOne", "()V"⟩, 12) := ⟨⟨by decide +kernel, by decide +kernel⟩, List.mem_of_getElem? (i := 40) (by decide +kernel), List.mem_of_getElem? (i := 390) (by decide +kernel), List.mem_of_getElem? (i := 391) (by decide +kernel)⟩
theorem lw_p17 : lw_okq (⟨"OrchestraYear", "keepReadText", "()V"⟩, 18) := ⟨⟨by decide +kernel, by decide +kernel⟩, List.mem_of_getElem? (i := 22) (by decide +kernel), List.mem_of_getElem? (i := 394) (by decide +kernel), List.mem_of_getElem? (i := 395) (by decide +kernel)⟩
theorem lw_p18 : lw_okq (⟨"OrchestraYear", "tellForce", "(II)V"⟩, 18) := ⟨⟨by decide +kernel, by decide +kernel⟩, List.mem_of_getElem? (i := 22) (by decide +kernel), List.mem_of_getElem? (i := 449) (by decide +kernel), List.mem_of_getElem? (i := 450) (by decide +kernel)⟩
theorem lw_p19 : lw_okq (⟨"OrchestraYear", "findWork", "(I)LOrchestraYear$Work;"⟩, 18) := ⟨⟨by decide +kernel, by decide +kernel⟩, List.mem_of_getElem? (i := 22) (by decide +kernel), List.mem_of_getElem? (i := 552) (by decide +kernel), List.mem_of_getElem? (i := 553) (by decide +kernel)⟩
theorem lw_p20 : lw_okq (⟨"OrchestraYear", "findPlayer", "(I)LOrchestraYear$Player;"⟩, 18) := ⟨⟨by decide +kernel, by decide +kernel⟩, List.mem_of_getElem? (i := 22) (by decide +kernel), List.mem_of_getElem? (i := 603) (by decide +kernel), List.mem_of_getElem? (i := 604) (by decide +kernel)⟩
theorem lw_p21 : lw_okq (⟨"OrchestraYear", "findService", "(I)LOrchestraYear$Service;"⟩, 18) := ⟨⟨by decide +kernel, by decide +kernel⟩, List.mem_of_getElem? (i := 22) (by decide +kernel), List.mem_of_getElem? (i := 680) (by decide +kernel), List.mem_of_getElem? (i := 681) (by decide +kernel)⟩
theorem lw_p22 : lw_okq (⟨"OrchestraYear", "countSittings", "(I)I"⟩, 18) := ⟨⟨by decide +kernel, by decide +kernel⟩, List.mem_of_getElem? (i := 22) (by decide +kernel), List.mem_of_getElem? (i := 724) (by decide +kernel), List.mem_of_getElem? (i := 725) (by decide +kernel)⟩
theorem lw_p23 : lw_okq (⟨"OrchestraYear", "findInForce", "(I)I"⟩, 18) := ⟨⟨by decide +kernel, by decide +kernel⟩, List.mem_of_getElem? (i := 22) (by decide +kernel), List.mem_of_getElem? (i := 757) (by decide +kernel), List.mem_of_getElem? (i := 758) (by decide +kernel)⟩
theorem lw_p24 : lw_okq (⟨"OrchestraYear", "findHindrance", "(LOrchestraYear$Service;II)I"⟩, 18) := ⟨⟨by decide +kernel, by decide +kernel⟩, List.mem_of_getElem? (i := 22) (by decide +kernel), List.mem_of_getElem? (i := 765) (by decide +kernel), List.mem_of_getElem? (i := 766) (by decide +kernel)⟩
theorem lw_p25 : lw_okq (⟨"OrchestraYear", "sitsInMeeting", "(LOrchestraYear$Service;I)Z"⟩, 18) := ⟨⟨by decide +kernel, by decide +kernel⟩, List.mem_of_getElem? (i := 22) (by decide +kernel), List.mem_of_getElem? (i := 778) (by decide +kernel), List.mem_of_getElem? (i := 779) (by decide +kernel)⟩
theorem lw_p26 : lw_okq (⟨"OrchestraYear", "learn", "(LOrchestraYear$Service;II)V"⟩, 18) := ⟨⟨by decide +kernel, by decide +kernel⟩, List.mem_of_getElem? (i := 22) (by decide +kernel), List.mem_of_getElem? (i := 794) (by decide +kernel), List.mem_of_getElem? (i := 795) (by decide +kernel)⟩
theorem lw_p27 : lw_okq (⟨"OrchestraYear$Reckoner", "step", "(I)V"⟩, 3) := ⟨⟨by decide +kernel, by decide +kernel⟩, List.mem_of_getElem? (i := 89) (by decide +kernel), List.mem_of_getElem? (i := 827) (by decide +kernel), List.mem_of_getElem? (i := 828) (by decide +kernel)⟩
theorem lw_p28 : lw_okq (⟨"OrchestraYear$Reckoner", "push", "(J)V"⟩, 3) := ⟨⟨by decide +kernel, by decide +kernel⟩, List.mem_of_getElem? (i := 89) (by decide +kernel), List.mem_of_getElem? (i := 831) (by decide +kernel), List.mem_of_getElem? (i := 832) (by decide +kernel)⟩
theorem lw_p29 : lw_okq (⟨"OrchestraYear$Reckoner", "pop", "()J"⟩, 3) := ⟨⟨by decide +kernel, by decide +kernel⟩, List.mem_of_getElem? (i := 89) (by decide +kernel), List.mem_of_getElem? (i := 835) (by decide +kernel), List.mem_of_getElem? (i := 836) (by decide +kernel)⟩
theorem lw_p30 : lw_okq (⟨"OrchestraYear", "findSeating", "(LOrchestraYear$Service;)V"⟩, 18) := ⟨⟨by decide +kernel, by decide +kernel⟩, List.mem_of_getElem? (i := 22) (by decide +kernel), List.mem_of_getElem? (i := 851) (by decide +kernel), List.mem_of_getElem? (i := 852) (by decide +kernel)⟩
theorem lw_p31 : lw_okq (⟨"OrchestraYear", "findFitting", "(LOrchestraYear$Service;I)I"⟩, 18) := ⟨⟨by decide +kernel, by decide +kernel⟩, List.mem_of_getElem? (i := 22) (by decide +kernel), List.mem_of_getElem? (i := 863) (by decide +kernel), List.mem_of_getElem? (i := 864) (by decide +kernel)⟩
def lw_privs_2 : List (MethodName × Nat) := [(⟨"OrchestraYear$Reader", "readOne", "()V"⟩, 12), (⟨"OrchestraYear", "keepReadText", "()V"⟩, 18), (⟨"OrchestraYear", "tellForce", "(II)V"⟩, 18), (⟨"OrchestraYear", "findWork", "(I)LOrchestraYear$Work;"⟩, 18), (⟨"OrchestraYear", "findPlayer", "(I)LOrchestraYear$Player;"⟩, 18), (⟨"OrchestraYear", "findService", "(I)LOrchestraYear$Service;"⟩, 18), (⟨"OrchestraYear", "countSittings", "(I)I"⟩, 18), (⟨"OrchestraYear", "findInForce", "(I)I"⟩, 18), (⟨"OrchestraYear", "findHindrance", "(LOrchestraYear$Service;II)I"⟩, 18), (⟨"OrchestraYear", "sitsInMeeting", "(LOrchestraYear$Service;I)Z"⟩, 18), (⟨"OrchestraYear", "learn", "(LOrchestraYear$Service;II)V"⟩, 18), (⟨"OrchestraYear$Reckoner", "step", "(I)V"⟩, 3), (⟨"OrchestraYear$Reckoner", "push", "(J)V"⟩, 3), (⟨"OrchestraYear$Reckoner", "pop", "()J"⟩, 3), (⟨"OrchestraYear", "findSeating", "(LOrchestraYear$Service;)V"⟩, 18), (⟨"OrchestraYear", "findFitting", "(LOrchestraYear$Service;I)I"⟩, 18)]
theorem lw_r2 : ∀ q ∈ lw_privs_2, lw_okq q := List.forall_mem_cons.mpr ⟨lw_p16, List.forall_mem_cons.mpr ⟨lw_p17, List.forall_mem_cons.mpr ⟨lw_p18, List.forall_mem_cons.mpr ⟨lw_p19, List.forall_mem_cons.mpr ⟨lw_p20, List.forall_mem_cons.mpr ⟨lw_p21, List.forall_mem_cons.mpr ⟨lw_p22, List.forall_mem_cons.mpr ⟨lw_p23, List.forall_mem_cons.mpr ⟨lw_p24, List.forall_mem_cons.mpr ⟨lw_p25, List.forall_mem_cons.mpr ⟨lw_p26, List.forall_mem_cons.mpr ⟨lw_p27, List.forall_mem_cons.mpr ⟨lw_p28, List.forall_mem_cons.mpr ⟨lw_p29, List.forall_mem_cons.mpr ⟨lw_p30, List.forall_mem_cons.mpr ⟨lw_p31, fun _ h => absurd h List.not_mem_nil⟩⟩⟩⟩⟩⟩⟩⟩⟩⟩⟩⟩⟩⟩⟩⟩
theorem lw_p32 : lw_okq (⟨"OrchestraYear$Seater", "seatOneMore", "(I)Z"⟩, 7) := ⟨⟨by decide +kernel, by decide +kernel⟩, List.mem_of_getElem? (i := 106) (by decide +kernel), List.mem_of_getElem? (i := 876) (by decide +kernel), List.mem_of_getElem? (i := 877) (by decide +kernel)⟩
theorem lw_p33 : lw_okq (⟨"OrchestraYear$Seater", "moveAlong", "(I)V"⟩, 7) := ⟨⟨by decide +kernel, by decide +kernel⟩, List.mem_of_getElem? (i := 106) (by decide +kernel), List.mem_of_getElem? (i := 880) (by decide +kernel), List.mem_of_getElem? (i := 881) (by decide +kernel)⟩
theorem lw_p34 : lw_okq (⟨"OrchestraYear$Seater", "settle", "(I)V"⟩, 7) := ⟨⟨by decide +kernel, by decide +kernel⟩, List.mem_of_getElem? (i := 106) (by decide +kernel), List.mem_of_getElem? (i := 884) (by decide +kernel), List.mem_of_getElem? (i := 885) (by decide +kernel)⟩
theorem lw_p35 : lw_okq (⟨"OrchestraYear$Seater", "canTake", "(II)Z"⟩, 7) := ⟨⟨by decide +kernel, by decide +kernel⟩, List.mem_of_getElem? (i := 106) (by decide +kernel), List.mem_of_getElem? (i := 888) (by decide +kernel), List.mem_of_getElem? (i := 889) (by decide +kernel)⟩
theorem lw_p36 : lw_okq (⟨"OrchestraYear", "sumDue", "(IIII)J"⟩, 18) := ⟨⟨by decide +kernel, by decide +kernel⟩, List.mem_of_getElem? (i := 22) (by decide +kernel), List.mem_of_getElem? (i := 920) (by decide +kernel), List.mem_of_getElem? (i := 921) (by decide +kernel)⟩
theorem lw_p37 : lw_okq (⟨"OrchestraYear", "findDue", "(LOrchestraYear$Service;II)J"⟩, 18) := ⟨⟨by decide +kernel, by decide +kernel⟩, List.mem_of_getElem? (i := 22) (by decide +kernel), List.mem_of_getElem? (i := 924) (by decide +kernel), List.mem_of_getElem? (i := 925) (by decide +kernel)⟩
theorem lw_p38 : lw_okq (⟨"OrchestraYear$Orderer", "begin", "(LOrchestraYear$Service;)V"⟩, 4) := ⟨⟨by decide +kernel, by decide +kernel⟩, List.mem_of_getElem? (i := 135) (by decide +kernel), List.mem_of_getElem? (i := 941) (by decide +kernel), List.mem_of_getElem? (i := 942) (by decide +kernel)⟩
theorem lw_p39 : lw_okq (⟨"OrchestraYear$Orderer", "sumWait", "(LOrchestraYear$Service;[LOrchestraYear$Work;)I"⟩, 4) := ⟨⟨by decide +kernel, by decide +kernel⟩, List.mem_of_getElem? (i := 135) (by decide +kernel), List.mem_of_getElem? (i := 946) (by decide +kernel), List.mem_of_getElem? (i := 947) (by decide +kernel)⟩
theorem lw_p40 : lw_okq (⟨"OrchestraYear$Orderer", "minutesBetween", "([LOrchestraYear$Work;I)I"⟩, 4) := ⟨⟨by decide +kernel, by decide +kernel⟩, List.mem_of_getElem? (i := 135) (by decide +kernel), List.mem_of_getElem? (i := 950) (by decide +kernel), List.mem_of_getElem? (i := 951) (by decide +kernel)⟩
theorem lw_p41 : lw_okq (⟨"OrchestraYear$Orderer", "nextOrder", "()Z"⟩, 4) := ⟨⟨by decide +kernel, by decide +kernel⟩, List.mem_of_getElem? (i := 135) (by decide +kernel), List.mem_of_getElem? (i := 956) (by decide +kernel), List.mem_of_getElem? (i := 957) (by decide +kernel)⟩
theorem lw_p42 : lw_okq (⟨"OrchestraYear$Orderer", "swap", "(II)V"⟩, 4) := ⟨⟨by decide +kernel, by decide +kernel⟩, List.mem_of_getElem? (i := 135) (by decide +kernel), List.mem_of_getElem? (i := 960) (by decide +kernel), List.mem_of_getElem? (i := 961) (by decide +kernel)⟩
theorem lw_p43 : lw_okq (⟨"OrchestraYear", "countSeated", "()I"⟩, 18) := ⟨⟨by decide +kernel, by decide +kernel⟩, List.mem_of_getElem? (i := 22) (by decide +kernel), List.mem_of_getElem? (i := 1007) (by decide +kernel), List.mem_of_getElem? (i := 1008) (by decide +kernel)⟩
theorem lw_p44 : lw_okq (⟨"OrchestraYear", "countSeatedGaps", "()I"⟩, 18) := ⟨⟨by decide +kernel, by decide +kernel⟩, List.mem_of_getElem? (i := 22) (by decide +kernel), List.mem_of_getElem? (i := 1011) (by decide +kernel), List.mem_of_getElem? (i := 1012) (by decide +kernel)⟩
theorem lw_p45 : lw_okq (⟨"OrchestraYear", "isPuttable", "(II)Z"⟩, 18) := ⟨⟨by decide +kernel, by decide +kernel⟩, List.mem_of_getElem? (i := 22) (by decide +kernel), List.mem_of_getElem? (i := 1019) (by decide +kernel), List.mem_of_getElem? (i := 1020) (by decide +kernel)⟩
theorem lw_p46 : lw_okq (⟨"OrchestraYear", "hostRefuses", "(I)I"⟩, 18) := ⟨⟨by decide +kernel, by decide +kernel⟩, List.mem_of_getElem? (i := 22) (by decide +kernel), List.mem_of_getElem? (i := 1023) (by decide +kernel), List.mem_of_getElem? (i := 1024) (by decide +kernel)⟩
theorem lw_p47 : lw_okq (⟨"OrchestraYear", "putBytes", "(LOrchestraYear$Tray;I)V"⟩, 18) := ⟨⟨by decide +kernel, by decide +kernel⟩, List.mem_of_getElem? (i := 22) (by decide +kernel), List.mem_of_getElem? (i := 1027) (by decide +kernel), List.mem_of_getElem? (i := 1028) (by decide +kernel)⟩
def lw_privs_3 : List (MethodName × Nat) := [(⟨"OrchestraYear$Seater", "seatOneMore", "(I)Z"⟩, 7), (⟨"OrchestraYear$Seater", "moveAlong", "(I)V"⟩, 7), (⟨"OrchestraYear$Seater", "settle", "(I)V"⟩, 7), (⟨"OrchestraYear$Seater", "canTake", "(II)Z"⟩, 7), (⟨"OrchestraYear", "sumDue", "(IIII)J"⟩, 18), (⟨"OrchestraYear", "findDue", "(LOrchestraYear$Service;II)J"⟩, 18), (⟨"OrchestraYear$Orderer", "begin", "(LOrchestraYear$Service;)V"⟩, 4), (⟨"OrchestraYear$Orderer", "sumWait", "(LOrchestraYear$Service;[LOrchestraYear$Work;)I"⟩, 4), (⟨"OrchestraYear$Orderer", "minutesBetween", "([LOrchestraYear$Work;I)I"⟩, 4), (⟨"OrchestraYear$Orderer", "nextOrder", "()Z"⟩, 4), (⟨"OrchestraYear$Orderer", "swap", "(II)V"⟩, 4), (⟨"OrchestraYear", "countSeated", "()I"⟩, 18), (⟨"OrchestraYear", "countSeatedGaps", "()I"⟩, 18), (⟨"OrchestraYear", "isPuttable", "(II)Z"⟩, 18), (⟨"OrchestraYear", "hostRefuses", "(I)I"⟩, 18), (⟨"OrchestraYear", "putBytes", "(LOrchestraYear$Tray;I)V"⟩, 18)]
theorem lw_r3 : ∀ q ∈ lw_privs_3, lw_okq q := List.forall_mem_cons.mpr ⟨lw_p32, List.forall_mem_cons.mpr ⟨lw_p33, List.forall_mem_cons.mpr ⟨lw_p34, List.forall_mem_cons.mpr ⟨lw_p35, List.forall_mem_cons.mpr ⟨lw_p36, List.forall_mem_cons.mpr ⟨lw_p37, List.forall_mem_cons.mpr ⟨lw_p38, List.forall_mem_cons.mpr ⟨lw_p39, List.forall_mem_cons.mpr ⟨lw_p40, List.forall_mem_cons.mpr ⟨lw_p41, List.forall_mem_cons.mpr ⟨lw_p42, List.forall_mem_cons.mpr ⟨lw_p43, List.forall_mem_cons.mpr ⟨lw_p44, List.forall_mem_cons.mpr ⟨lw_p45, List.forall_mem_cons.mpr ⟨lw_p46, List.forall_mem_cons.mpr ⟨lw_p47, fun _ h => absurd h List.not_mem_nil⟩⟩⟩⟩⟩⟩⟩⟩⟩⟩⟩⟩⟩⟩⟩⟩
theorem lw_p48 : lw_okq (⟨"OrchestraYear", "putPays", "(LOrchestraYear$Tray;)V"⟩, 18) := ⟨⟨by decide +kernel, by decide +kernel⟩, List.mem_of_getElem? (i := 22) (by decide +kernel), List.mem_of_getElem? (i := 1031) (by decide +kernel), List.mem_of_getElem? (i := 1032) (by decide +kernel)⟩
theorem lw_p49 : lw_okq (⟨"OrchestraYear", "putTruths", "(LOrchestraYear$Tray;I)V"⟩, 18) := ⟨⟨by decide +kernel, by decide +kernel⟩, List.mem_of_getElem? (i := 22) (by decide +kernel), List.mem_of_getElem? (i := 1035) (by decide +kernel), List.mem_of_getElem? (i := 1036) (by decide +kernel)⟩
theorem lw_p50 : lw_okq (⟨"OrchestraYear", "hostAnswers", "(I)I"⟩, 18) := ⟨⟨by decide +kernel, by decide +kernel⟩, List.mem_of_getElem? (i := 22) (by decide +kernel), List.mem_of_getElem? (i := 1039) (by decide +kernel), List.mem_of_getElem? (i := 1040) (by decide +kernel)⟩
theorem lw_p51 : lw_okq (⟨"OrchestraYear", "forgeDay", "(LOrchestraYear$Tray;I)I"⟩, 18) := ⟨⟨by decide +kernel, by decide +kernel⟩, List.mem_of_getElem? (i := 22) (by decide +kernel), List.mem_of_getElem? (i := 1050) (by decide +kernel), List.mem_of_getElem? (i := 1051) (by decide +kernel)⟩
theorem lw_p52 : lw_okq (⟨"OrchestraYear", "forgePlace", "(LOrchestraYear$Tray;II)I"⟩, 18) := ⟨⟨by decide +kernel, by decide +kernel⟩, List.mem_of_getElem? (i := 22) (by decide +kernel), List.mem_of_getElem? (i := 1063) (by decide +kernel), List.mem_of_getElem? (i := 1064) (by decide +kernel)⟩
theorem lw_p53 : lw_okq (⟨"OrchestraYear", "forgeCopy", "(LOrchestraYear$Tray;I)I"⟩, 18) := ⟨⟨by decide +kernel, by decide +kernel⟩, List.mem_of_getElem? (i := 22) (by decide +kernel), List.mem_of_getElem? (i := 1072) (by decide +kernel), List.mem_of_getElem? (i := 1073) (by decide +kernel)⟩
theorem lw_p54 : lw_okq (⟨"OrchestraYear", "forgeLaid", "(LOrchestraYear$Tray;)I"⟩, 18) := ⟨⟨by decide +kernel, by decide +kernel⟩, List.mem_of_getElem? (i := 22) (by decide +kernel), List.mem_of_getElem? (i := 1076) (by decide +kernel), List.mem_of_getElem? (i := 1077) (by decide +kernel)⟩
theorem lw_p55 : lw_okq (⟨"OrchestraYearModel", "reads", "(I)V"⟩, 58) := ⟨⟨by decide +kernel, by decide +kernel⟩, List.mem_of_getElem? (i := 1084) (by decide +kernel), List.mem_of_getElem? (i := 1090) (by decide +kernel), List.mem_of_getElem? (i := 1091) (by decide +kernel)⟩
theorem lw_p56 : lw_okq (⟨"OrchestraYearModel", "next", "()V"⟩, 58) := ⟨⟨by decide +kernel, by decide +kernel⟩, List.mem_of_getElem? (i := 1084) (by decide +kernel), List.mem_of_getElem? (i := 1094) (by decide +kernel), List.mem_of_getElem? (i := 1095) (by decide +kernel)⟩
theorem lw_p57 : lw_okq (⟨"OrchestraYearModel", "byteAt", "(I)I"⟩, 58) := ⟨⟨by decide +kernel, by decide +kernel⟩, List.mem_of_getElem? (i := 1084) (by decide +kernel), List.mem_of_getElem? (i := 1098) (by decide +kernel), List.mem_of_getElem? (i := 1099) (by decide +kernel)⟩
theorem lw_p58 : lw_okq (⟨"OrchestraYearModel", "word", "()V"⟩, 58) := ⟨⟨by decide +kernel, by decide +kernel⟩, List.mem_of_getElem? (i := 1084) (by decide +kernel), List.mem_of_getElem? (i := 1105) (by decide +kernel), List.mem_of_getElem? (i := 1106) (by decide +kernel)⟩
theorem lw_p59 : lw_okq (⟨"OrchestraYearModel", "number", "()V"⟩, 58) := ⟨⟨by decide +kernel, by decide +kernel⟩, List.mem_of_getElem? (i := 1084) (by decide +kernel), List.mem_of_getElem? (i := 1112) (by decide +kernel), List.mem_of_getElem? (i := 1113) (by decide +kernel)⟩
theorem lw_p60 : lw_okq (⟨"OrchestraYearModel", "isWrong", "()Z"⟩, 58) := ⟨⟨by decide +kernel, by decide +kernel⟩, List.mem_of_getElem? (i := 1084) (by decide +kernel), List.mem_of_getElem? (i := 1116) (by decide +kernel), List.mem_of_getElem? (i := 1117) (by decide +kernel)⟩
theorem lw_p61 : lw_okq (⟨"OrchestraYearModel", "cannot", "()V"⟩, 58) := ⟨⟨by decide +kernel, by decide +kernel⟩, List.mem_of_getElem? (i := 1084) (by decide +kernel), List.mem_of_getElem? (i := 1120) (by decide +kernel), List.mem_of_getElem? (i := 1121) (by decide +kernel)⟩
theorem lw_p62 : lw_okq (⟨"OrchestraYearModel", "told", "(I)V"⟩, 58) := ⟨⟨by decide +kernel, by decide +kernel⟩, List.mem_of_getElem? (i := 1084) (by decide +kernel), List.mem_of_getElem? (i := 1124) (by decide +kernel), List.mem_of_getElem? (i := 1125) (by decide +kernel)⟩
theorem lw_p63 : lw_okq (⟨"OrchestraYearModel", "need", "(I)V"⟩, 58) := ⟨⟨by decide +kernel, by decide +kernel⟩, List.mem_of_getElem? (i := 1084) (by decide +kernel), List.mem_of_getElem? (i := 1128) (by decide +kernel), List.mem_of_getElem? (i := 1129) (by decide +kernel)⟩
def lw_privs_4 : List (MethodName × Nat) := [(⟨"OrchestraYear", "putPays", "(LOrchestraYear$Tray;)V"⟩, 18), (⟨"OrchestraYear", "putTruths", "(LOrchestraYear$Tray;I)V"⟩, 18), (⟨"OrchestraYear", "hostAnswers", "(I)I"⟩, 18), (⟨"OrchestraYear", "forgeDay", "(LOrchestraYear$Tray;I)I"⟩, 18), (⟨"OrchestraYear", "forgePlace", "(LOrchestraYear$Tray;II)I"⟩, 18), (⟨"OrchestraYear", "forgeCopy", "(LOrchestraYear$Tray;I)I"⟩, 18), (⟨"OrchestraYear", "forgeLaid", "(LOrchestraYear$Tray;)I"⟩, 18), (⟨"OrchestraYearModel", "reads", "(I)V"⟩, 58), (⟨"OrchestraYearModel", "next", "()V"⟩, 58), (⟨"OrchestraYearModel", "byteAt", "(I)I"⟩, 58), (⟨"OrchestraYearModel", "word", "()V"⟩, 58), (⟨"OrchestraYearModel", "number", "()V"⟩, 58), (⟨"OrchestraYearModel", "isWrong", "()Z"⟩, 58), (⟨"OrchestraYearModel", "cannot", "()V"⟩, 58), (⟨"OrchestraYearModel", "told", "(I)V"⟩, 58), (⟨"OrchestraYearModel", "need", "(I)V"⟩, 58)]
theorem lw_r4 : ∀ q ∈ lw_privs_4, lw_okq q := List.forall_mem_cons.mpr ⟨lw_p48, List.forall_mem_cons.mpr ⟨lw_p49, List.forall_mem_cons.mpr ⟨lw_p50, List.forall_mem_cons.mpr ⟨lw_p51, List.forall_mem_cons.mpr ⟨lw_p52, List.forall_mem_cons.mpr ⟨lw_p53, List.forall_mem_cons.mpr ⟨lw_p54, List.forall_mem_cons.mpr ⟨lw_p55, List.forall_mem_cons.mpr ⟨lw_p56, List.forall_mem_cons.mpr ⟨lw_p57, List.forall_mem_cons.mpr ⟨lw_p58, List.forall_mem_cons.mpr ⟨lw_p59, List.forall_mem_cons.mpr ⟨lw_p60, List.forall_mem_cons.mpr ⟨lw_p61, List.forall_mem_cons.mpr ⟨lw_p62, List.forall_mem_cons.mpr ⟨lw_p63, fun _ h => absurd h List.not_mem_nil⟩⟩⟩⟩⟩⟩⟩⟩⟩⟩⟩⟩⟩⟩⟩⟩
theorem lw_p64 : lw_okq (⟨"OrchestraYearModel", "either", "()V"⟩, 58) := ⟨⟨by decide +kernel, by decide +kernel⟩, List.mem_of_getElem? (i := 1084) (by decide +kernel), List.mem_of_getElem? (i := 1132) (by decide +kernel), List.mem_of_getElem? (i := 1133) (by decide +kernel)⟩
theorem lw_p65 : lw_okq (⟨"OrchestraYearModel", "both", "()V"⟩, 58) := ⟨⟨by decide +kernel, by decide +kernel⟩, List.mem_of_getElem? (i := 1084) (by decide +kernel), List.mem_of_getElem? (i := 1136) (by decide +kernel), List.mem_of_getElem? (i := 1137) (by decide +kernel)⟩
theorem lw_p66 : lw_okq (⟨"OrchestraYearModel", "not", "()V"⟩, 58) := ⟨⟨by decide +kernel, by decide +kernel⟩, List.mem_of_getElem? (i := 1084) (by decide +kernel), List.mem_of_getElem? (i := 1140) (by decide +kernel), List.mem_of_getElem? (i := 1141) (by decide +kernel)⟩
theorem lw_p67 : lw_okq (⟨"OrchestraYearModel", "opens", "()V"⟩, 58) := ⟨⟨by decide +kernel, by decide +kernel⟩, List.mem_of_getElem? (i := 1084) (by decide +kernel), List.mem_of_getElem? (i := 1144) (by decide +kernel), List.mem_of_getElem? (i := 1145) (by decide +kernel)⟩
theorem lw_p68 : lw_okq (⟨"OrchestraYearModel", "emit", "(II)V"⟩, 58) := ⟨⟨by decide +kernel, by decide +kernel⟩, List.mem_of_getElem? (i := 1084) (by decide +kernel), List.mem_of_getElem? (i := 1148) (by decide +kernel), List.mem_of_getElem? (i := 1149) (by decide +kernel)⟩
theorem lw_p69 : lw_okq (⟨"OrchestraYearModel", "sum", "()V"⟩, 58) := ⟨⟨by decide +kernel, by decide +kernel⟩, List.mem_of_getElem? (i := 1084) (by decide +kernel), List.mem_of_getElem? (i := 1152) (by decide +kernel), List.mem_of_getElem? (i := 1153) (by decide +kernel)⟩
theorem lw_p70 : lw_okq (⟨"OrchestraYearModel", "term", "()V"⟩, 58) := ⟨⟨by decide +kernel, by decide +kernel⟩, List.mem_of_getElem? (i := 1084) (by decide +kernel), List.mem_of_getElem? (i := 1156) (by decide +kernel), List.mem_of_getElem? (i := 1157) (by decide +kernel)⟩
theorem lw_p71 : lw_okq (⟨"OrchestraYearModel", "one", "()V"⟩, 58) := ⟨⟨by decide +kernel, by decide +kernel⟩, List.mem_of_getElem? (i := 1084) (by decide +kernel), List.mem_of_getElem? (i := 1160) (by decide +kernel), List.mem_of_getElem? (i := 1161) (by decide +kernel)⟩
theorem lw_p72 : lw_okq (⟨"OrchestraYearModel", "isWork", "(I)Z"⟩, 58) := ⟨⟨by decide +kernel, by decide +kernel⟩, List.mem_of_getElem? (i := 1084) (by decide +kernel), List.mem_of_getElem? (i := 1351) (by decide +kernel), List.mem_of_getElem? (i := 1352) (by decide +kernel)⟩
theorem lw_p73 : lw_okq (⟨"OrchestraYearModel", "isPlayed", "(II)Z"⟩, 58) := ⟨⟨by decide +kernel, by decide +kernel⟩, List.mem_of_getElem? (i := 1084) (by decide +kernel), List.mem_of_getElem? (i := 1366) (by decide +kernel), List.mem_of_getElem? (i := 1367) (by decide +kernel)⟩
theorem lw_p74 : lw_okq (⟨"OrchestraYearModel", "isPlayer", "(I)Z"⟩, 58) := ⟨⟨by decide +kernel, by decide +kernel⟩, List.mem_of_getElem? (i := 1084) (by decide +kernel), List.mem_of_getElem? (i := 1381) (by decide +kernel), List.mem_of_getElem? (i := 1382) (by decide +kernel)⟩
theorem lw_p75 : lw_okq (⟨"OrchestraYearModel", "chairOf", "(II)I"⟩, 58) := ⟨⟨by decide +kernel, by decide +kernel⟩, List.mem_of_getElem? (i := 1084) (by decide +kernel), List.mem_of_getElem? (i := 1389) (by decide +kernel), List.mem_of_getElem? (i := 1390) (by decide +kernel)⟩
theorem lw_p76 : lw_okq (⟨"OrchestraYearModel", "isService", "(I)Z"⟩, 58) := ⟨⟨by decide +kernel, by decide +kernel⟩, List.mem_of_getElem? (i := 1084) (by decide +kernel), List.mem_of_getElem? (i := 1401) (by decide +kernel), List.mem_of_getElem? (i := 1402) (by decide +kernel)⟩
theorem lw_p77 : lw_okq (⟨"OrchestraYearModel", "chairs", "(II)I"⟩, 58) := ⟨⟨by decide +kernel, by decide +kernel⟩, List.mem_of_getElem? (i := 1084) (by decide +kernel), List.mem_of_getElem? (i := 1405) (by decide +kernel), List.mem_of_getElem? (i := 1406) (by decide +kernel)⟩
theorem lw_p78 : lw_okq (⟨"OrchestraYearModel", "need", "(III)I"⟩, 58) := ⟨⟨by decide +kernel, by decide +kernel⟩, List.mem_of_getElem? (i := 1084) (by decide +kernel), List.mem_of_getElem? (i := 1409) (by decide +kernel), List.mem_of_getElem? (i := 1410) (by decide +kernel)⟩
theorem lw_p79 : lw_okq (⟨"OrchestraYearModel", "needOf", "(II)I"⟩, 58) := ⟨⟨by decide +kernel, by decide +kernel⟩, List.mem_of_getElem? (i := 1084) (by decide +kernel), List.mem_of_getElem? (i := 1413) (by decide +kernel), List.mem_of_getElem? (i := 1414) (by decide +kernel)⟩
def lw_privs_5 : List (MethodName × Nat) := [(⟨"OrchestraYearModel", "either", "()V"⟩, 58), (⟨"OrchestraYearModel", "both", "()V"⟩, 58), (⟨"OrchestraYearModel", "not", "()V"⟩, 58), (⟨"OrchestraYearModel", "opens", "()V"⟩, 58), (⟨"OrchestraYearModel", "emit", "(II)V"⟩, 58), (⟨"OrchestraYearModel", "sum", "()V"⟩, 58), (⟨"OrchestraYearModel", "term", "()V"⟩, 58), (⟨"OrchestraYearModel", "one", "()V"⟩, 58), (⟨"OrchestraYearModel", "isWork", "(I)Z"⟩, 58), (⟨"OrchestraYearModel", "isPlayed", "(II)Z"⟩, 58), (⟨"OrchestraYearModel", "isPlayer", "(I)Z"⟩, 58), (⟨"OrchestraYearModel", "chairOf", "(II)I"⟩, 58), (⟨"OrchestraYearModel", "isService", "(I)Z"⟩, 58), (⟨"OrchestraYearModel", "chairs", "(II)I"⟩, 58), (⟨"OrchestraYearModel", "need", "(III)I"⟩, 58), (⟨"OrchestraYearModel", "needOf", "(II)I"⟩, 58)]
theorem lw_r5 : ∀ q ∈ lw_privs_5, lw_okq q := List.forall_mem_cons.mpr ⟨lw_p64, List.forall_mem_cons.mpr ⟨lw_p65, List.forall_mem_cons.mpr ⟨lw_p66, List.forall_mem_cons.mpr ⟨lw_p67, List.forall_mem_cons.mpr ⟨lw_p68, List.forall_mem_cons.mpr ⟨lw_p69, List.forall_mem_cons.mpr ⟨lw_p70, List.forall_mem_cons.mpr ⟨lw_p71, List.forall_mem_cons.mpr ⟨lw_p72, List.forall_mem_cons.mpr ⟨lw_p73, List.forall_mem_cons.mpr ⟨lw_p74, List.forall_mem_cons.mpr ⟨lw_p75, List.forall_mem_cons.mpr ⟨lw_p76, List.forall_mem_cons.mpr ⟨lw_p77, List.forall_mem_cons.mpr ⟨lw_p78, List.forall_mem_cons.mpr ⟨lw_p79, fun _ h => absurd h List.not_mem_nil⟩⟩⟩⟩⟩⟩⟩⟩⟩⟩⟩⟩⟩⟩⟩⟩
theorem lw_p80 : lw_okq (⟨"OrchestraYearModel", "gapsIn", "(I)I"⟩, 58) := ⟨⟨by decide +kernel, by decide +kernel⟩, List.mem_of_getElem? (i := 1084) (by decide +kernel), List.mem_of_getElem? (i := 1421) (by decide +kernel), List.mem_of_getElem? (i := 1422) (by decide +kernel)⟩
theorem lw_p81 : lw_okq (⟨"OrchestraYearModel", "textOn", "(I)I"⟩, 58) := ⟨⟨by decide +kernel, by decide +kernel⟩, List.mem_of_getElem? (i := 1084) (by decide +kernel), List.mem_of_getElem? (i := 1442) (by decide +kernel), List.mem_of_getElem? (i := 1443) (by decide +kernel)⟩
theorem lw_p82 : lw_okq (⟨"OrchestraYearModel", "hinders", "(III)I"⟩, 58) := ⟨⟨by decide +kernel, by decide +kernel⟩, List.mem_of_getElem? (i := 1084) (by decide +kernel), List.mem_of_getElem? (i := 1450) (by decide +kernel), List.mem_of_getElem? (i := 1451) (by decide +kernel)⟩
theorem lw_p83 : lw_okq (⟨"OrchestraYearModel", "isAway", "(II)Z"⟩, 58) := ⟨⟨by decide +kernel, by decide +kernel⟩, List.mem_of_getElem? (i := 1084) (by decide +kernel), List.mem_of_getElem? (i := 1454) (by decide +kernel), List.mem_of_getElem? (i := 1455) (by decide +kernel)⟩
theorem lw_p84 : lw_okq (⟨"OrchestraYearModel", "ends", "(I)I"⟩, 58) := ⟨⟨by decide +kernel, by decide +kernel⟩, List.mem_of_getElem? (i := 1084) (by decide +kernel), List.mem_of_getElem? (i := 1458) (by decide +kernel), List.mem_of_getElem? (i := 1459) (by decide +kernel)⟩
theorem lw_p85 : lw_okq (⟨"OrchestraYearModel", "begins", "(I)I"⟩, 58) := ⟨⟨by decide +kernel, by decide +kernel⟩, List.mem_of_getElem? (i := 1084) (by decide +kernel), List.mem_of_getElem? (i := 1462) (by decide +kernel), List.mem_of_getElem? (i := 1463) (by decide +kernel)⟩
theorem lw_p86 : lw_okq (⟨"OrchestraYearModel", "worthOf", "(IIIII)J"⟩, 58) := ⟨⟨by decide +kernel, by decide +kernel⟩, List.mem_of_getElem? (i := 1084) (by decide +kernel), List.mem_of_getElem? (i := 1466) (by decide +kernel), List.mem_of_getElem? (i := 1467) (by decide +kernel)⟩
theorem lw_p87 : lw_okq (⟨"OrchestraYearModel", "named", "(IIII)I"⟩, 58) := ⟨⟨by decide +kernel, by decide +kernel⟩, List.mem_of_getElem? (i := 1084) (by decide +kernel), List.mem_of_getElem? (i := 1470) (by decide +kernel), List.mem_of_getElem? (i := 1471) (by decide +kernel)⟩
theorem lw_p88 : lw_okq (⟨"OrchestraYearModel", "week", "(II)I"⟩, 58) := ⟨⟨by decide +kernel, by decide +kernel⟩, List.mem_of_getElem? (i := 1084) (by decide +kernel), List.mem_of_getElem? (i := 1474) (by decide +kernel), List.mem_of_getElem? (i := 1475) (by decide +kernel)⟩
theorem lw_p89 : lw_okq (⟨"OrchestraYearModel", "rest", "(II)I"⟩, 58) := ⟨⟨by decide +kernel, by decide +kernel⟩, List.mem_of_getElem? (i := 1084) (by decide +kernel), List.mem_of_getElem? (i := 1478) (by decide +kernel), List.mem_of_getElem? (i := 1479) (by decide +kernel)⟩
theorem lw_p90 : lw_okq (⟨"OrchestraYearModel", "seats", "(I)I"⟩, 58) := ⟨⟨by decide +kernel, by decide +kernel⟩, List.mem_of_getElem? (i := 1084) (by decide +kernel), List.mem_of_getElem? (i := 1494) (by decide +kernel), List.mem_of_getElem? (i := 1495) (by decide +kernel)⟩
theorem lw_p91 : lw_okq (⟨"OrchestraYearModel", "instrumentOf", "(II)I"⟩, 58) := ⟨⟨by decide +kernel, by decide +kernel⟩, List.mem_of_getElem? (i := 1084) (by decide +kernel), List.mem_of_getElem? (i := 1498) (by decide +kernel), List.mem_of_getElem? (i := 1499) (by decide +kernel)⟩
theorem lw_p92 : lw_okq (⟨"OrchestraYearModel", "choice", "(III)I"⟩, 58) := ⟨⟨by decide +kernel, by decide +kernel⟩, List.mem_of_getElem? (i := 1084) (by decide +kernel), List.mem_of_getElem? (i := 1502) (by decide +kernel), List.mem_of_getElem? (i := 1503) (by decide +kernel)⟩
theorem lw_p93 : lw_okq (⟨"OrchestraYearModel", "dueOf", "(IIII)J"⟩, 58) := ⟨⟨by decide +kernel, by decide +kernel⟩, List.mem_of_getElem? (i := 1084) (by decide +kernel), List.mem_of_getElem? (i := 1522) (by decide +kernel), List.mem_of_getElem? (i := 1523) (by decide +kernel)⟩
theorem lw_p94 : lw_okq (⟨"OrchestraYearModel", "orders", "(I)I"⟩, 58) := ⟨⟨by decide +kernel, by decide +kernel⟩, List.mem_of_getElem? (i := 1084) (by decide +kernel), List.mem_of_getElem? (i := 1532) (by decide +kernel), List.mem_of_getElem? (i := 1533) (by decide +kernel)⟩
theorem lw_p95 : lw_okq (⟨"OrchestraYearModel", "isOrder", "(III)Z"⟩, 58) := ⟨⟨by decide +kernel, by decide +kernel⟩, List.mem_of_getElem? (i := 1084) (by decide +kernel), List.mem_of_getElem? (i := 1536) (by decide +kernel), List.mem_of_getElem? (i := 1537) (by decide +kernel)⟩
def lw_privs_6 : List (MethodName × Nat) := [(⟨"OrchestraYearModel", "gapsIn", "(I)I"⟩, 58), (⟨"OrchestraYearModel", "textOn", "(I)I"⟩, 58), (⟨"OrchestraYearModel", "hinders", "(III)I"⟩, 58), (⟨"OrchestraYearModel", "isAway", "(II)Z"⟩, 58), (⟨"OrchestraYearModel", "ends", "(I)I"⟩, 58), (⟨"OrchestraYearModel", "begins", "(I)I"⟩, 58), (⟨"OrchestraYearModel", "worthOf", "(IIIII)J"⟩, 58), (⟨"OrchestraYearModel", "named", "(IIII)I"⟩, 58), (⟨"OrchestraYearModel", "week", "(II)I"⟩, 58), (⟨"OrchestraYearModel", "rest", "(II)I"⟩, 58), (⟨"OrchestraYearModel", "seats", "(I)I"⟩, 58), (⟨"OrchestraYearModel", "instrumentOf", "(II)I"⟩, 58), (⟨"OrchestraYearModel", "choice", "(III)I"⟩, 58), (⟨"OrchestraYearModel", "dueOf", "(IIII)J"⟩, 58), (⟨"OrchestraYearModel", "orders", "(I)I"⟩, 58), (⟨"OrchestraYearModel", "isOrder", "(III)Z"⟩, 58)]
theorem lw_r6 : ∀ q ∈ lw_privs_6, lw_okq q := List.forall_mem_cons.mpr ⟨lw_p80, List.forall_mem_cons.mpr ⟨lw_p81, List.forall_mem_cons.mpr ⟨lw_p82, List.forall_mem_cons.mpr ⟨lw_p83, List.forall_mem_cons.mpr ⟨lw_p84, List.forall_mem_cons.mpr ⟨lw_p85, List.forall_mem_cons.mpr ⟨lw_p86, List.forall_mem_cons.mpr ⟨lw_p87, List.forall_mem_cons.mpr ⟨lw_p88, List.forall_mem_cons.mpr ⟨lw_p89, List.forall_mem_cons.mpr ⟨lw_p90, List.forall_mem_cons.mpr ⟨lw_p91, List.forall_mem_cons.mpr ⟨lw_p92, List.forall_mem_cons.mpr ⟨lw_p93, List.forall_mem_cons.mpr ⟨lw_p94, List.forall_mem_cons.mpr ⟨lw_p95, fun _ h => absurd h List.not_mem_nil⟩⟩⟩⟩⟩⟩⟩⟩⟩⟩⟩⟩⟩⟩⟩⟩
theorem lw_p96 : lw_okq (⟨"OrchestraYearModel", "waitOf", "(I)I"⟩, 58) := ⟨⟨by decide +kernel, by decide +kernel⟩, List.mem_of_getElem? (i := 1084) (by decide +kernel), List.mem_of_getElem? (i := 1540) (by decide +kernel), List.mem_of_getElem? (i := 1541) (by decide +kernel)⟩
theorem lw_p97 : lw_okq (⟨"OrchestraYearModel", "isProgramme", "(IIII)Z"⟩, 58) := ⟨⟨by decide +kernel, by decide +kernel⟩, List.mem_of_getElem? (i := 1084) (by decide +kernel), List.mem_of_getElem? (i := 1552) (by decide +kernel), List.mem_of_getElem? (i := 1553) (by decide +kernel)⟩
theorem lw_p98 : lw_okq (⟨"OrchestraYearModel", "isBefore", "(II)Z"⟩, 58) := ⟨⟨by decide +kernel, by decide +kernel⟩, List.mem_of_getElem? (i := 1084) (by decide +kernel), List.mem_of_getElem? (i := 1556) (by decide +kernel), List.mem_of_getElem? (i := 1557) (by decide +kernel)⟩
theorem lw_p99 : lw_okq (⟨"OrchestraYearModel", "priceOf", "(I)I"⟩, 58) := ⟨⟨by decide +kernel, by decide +kernel⟩, List.mem_of_getElem? (i := 1084) (by decide +kernel), List.mem_of_getElem? (i := 1560) (by decide +kernel), List.mem_of_getElem? (i := 1561) (by decide +kernel)⟩
theorem lw_p100 : lw_okq (⟨"OrchestraYearModel", "refuse", "(I)I"⟩, 58) := ⟨⟨by decide +kernel, by decide +kernel⟩, List.mem_of_getElem? (i := 1084) (by decide +kernel), List.mem_of_getElem? (i := 1576) (by decide +kernel), List.mem_of_getElem? (i := 1577) (by decide +kernel)⟩
theorem lw_p101 : lw_okq (⟨"OrchestraYearModel", "done", "(I)I"⟩, 58) := ⟨⟨by decide +kernel, by decide +kernel⟩, List.mem_of_getElem? (i := 1084) (by decide +kernel), List.mem_of_getElem? (i := 1580) (by decide +kernel), List.mem_of_getElem? (i := 1581) (by decide +kernel)⟩
theorem lw_p102 : lw_okq (⟨"OrchestraYearModel", "asService", "(III)I"⟩, 58) := ⟨⟨by decide +kernel, by decide +kernel⟩, List.mem_of_getElem? (i := 1084) (by decide +kernel), List.mem_of_getElem? (i := 1588) (by decide +kernel), List.mem_of_getElem? (i := 1589) (by decide +kernel)⟩
theorem lw_p103 : lw_okq (⟨"OrchestraYearModel", "asRow", "(III)I"⟩, 58) := ⟨⟨by decide +kernel, by decide +kernel⟩, List.mem_of_getElem? (i := 1084) (by decide +kernel), List.mem_of_getElem? (i := 1595) (by decide +kernel), List.mem_of_getElem? (i := 1596) (by decide +kernel)⟩
theorem lw_p104 : lw_okq (⟨"OrchestraYearModel", "copied", "(II)I"⟩, 58) := ⟨⟨by decide +kernel, by decide +kernel⟩, List.mem_of_getElem? (i := 1084) (by decide +kernel), List.mem_of_getElem? (i := 1599) (by decide +kernel), List.mem_of_getElem? (i := 1600) (by decide +kernel)⟩
def lw_privs_7 : List (MethodName × Nat) := [(⟨"OrchestraYearModel", "waitOf", "(I)I"⟩, 58), (⟨"OrchestraYearModel", "isProgramme", "(IIII)Z"⟩, 58), (⟨"OrchestraYearModel", "isBefore", "(II)Z"⟩, 58), (⟨"OrchestraYearModel", "priceOf", "(I)I"⟩, 58), (⟨"OrchestraYearModel", "refuse", "(I)I"⟩, 58), (⟨"OrchestraYearModel", "done", "(I)I"⟩, 58), (⟨"OrchestraYearModel", "asService", "(III)I"⟩, 58), (⟨"OrchestraYearModel", "asRow", "(III)I"⟩, 58), (⟨"OrchestraYearModel", "copied", "(II)I"⟩, 58)]
theorem lw_r7 : ∀ q ∈ lw_privs_7, lw_okq q := List.forall_mem_cons.mpr ⟨lw_p96, List.forall_mem_cons.mpr ⟨lw_p97, List.forall_mem_cons.mpr ⟨lw_p98, List.forall_mem_cons.mpr ⟨lw_p99, List.forall_mem_cons.mpr ⟨lw_p100, List.forall_mem_cons.mpr ⟨lw_p101, List.forall_mem_cons.mpr ⟨lw_p102, List.forall_mem_cons.mpr ⟨lw_p103, List.forall_mem_cons.mpr ⟨lw_p104, fun _ h => absurd h List.not_mem_nil⟩⟩⟩⟩⟩⟩⟩⟩⟩
def lw_privs : List (MethodName × Nat) := lw_privs_1 ++ (lw_privs_2 ++ (lw_privs_3 ++ (lw_privs_4 ++ (lw_privs_5 ++ (lw_privs_6 ++ (lw_privs_7))))))
def lw_tbl : List Cond := k2_sels lw_privs ++ tables_1
theorem lw_privs_ok : ∀ q ∈ lw_privs, lw_okq q := by
  show ∀ q ∈ lw_privs_1 ++ (lw_privs_2 ++ (lw_privs_3 ++ (lw_privs_4 ++ (lw_privs_5 ++ (lw_privs_6 ++ (lw_privs_7)))))), lw_okq q
  exact List.forall_mem_append.mpr ⟨lw_r1, List.forall_mem_append.mpr ⟨lw_r2, List.forall_mem_append.mpr ⟨lw_r3, List.forall_mem_append.mpr ⟨lw_r4, List.forall_mem_append.mpr ⟨lw_r5, List.forall_mem_append.mpr ⟨lw_r6, lw_r7⟩⟩⟩⟩⟩⟩

def RX0 : String := "OrchestraYear$Chooser"
def TX0 : u_T := fun k => match k with
  | 0 => ("OrchestraYear$Chooser", "posts", "[I", true)
  | 1 => ("OrchestraYear$Chooser", "leastRank", "[I", true)
  | _ => ("OrchestraYear$Chooser", "longest", "I", false)
def tyX0 : Nat → FieldType := fun k => match k with
  | 0 => .array .int
  | 1 => .array .int
  | _ => .int
theorem nmX0 : ∀ a, a < 3 → ∀ b, b < 3 → a ≠ b → (TX0 a).2.1 ≠ (TX0 b).2.1 := by decide +kernel
theorem tyX0_ok : ∀ k, k < 3 → parseFieldDescriptor (TX0 k).2.2.1 = some (tyX0 k) := by decide +kernel
abbrev cX0_init : ByteArray := prog_2_method_1_code
def yX0_init : MethodName := ⟨RX0, "<init>", "()V"⟩
abbrev cX0_begin : ByteArray := prog_2_method_2_code
def yX0_begin : MethodName := ⟨RX0, "begin", "()V"⟩
abbrev cX0_addPost : ByteArray := prog_2_method_3_code
def yX0_addPost : MethodName := ⟨RX0, "addPost", "(I)V"⟩
abbrev cX0_addWork : ByteArray := prog_2_method_4_code
def yX0_addWork : MethodName := ⟨RX0, "addWork", "(ILOrchestraYear$Work;)V"⟩
abbrev cX0_choose : ByteArray := prog_2_method_5_code
def yX0_choose : MethodName := ⟨RX0, "choose", "(II)I"⟩
abbrev cX0_bitOf : ByteArray := prog_2_method_6_code
def yX0_bitOf : MethodName := ⟨RX0, "bitOf", "(I)I"⟩
abbrev cX0_setOf : ByteArray := prog_2_method_7_code
def yX0_setOf : MethodName := ⟨RX0, "setOf", "(I)I"⟩
def RX1 : String := "OrchestraYear$Orderer"
def TX1 : u_T := fun k => match k with
  | 0 => ("OrchestraYear$Orderer", "tried", "[I", true)
  | 1 => ("OrchestraYear$Orderer", "best", "[I", true)
  | 2 => ("OrchestraYear$Orderer", "size", "I", false)
  | _ => ("OrchestraYear$Orderer", "leastWait", "I", false)
def tyX1 : Nat → FieldType := fun k => match k with
  | 0 => .array .int
  | 1 => .array .int
  | 2 => .int
  | _ => .int
theorem nmX1 : ∀ a, a < 4 → ∀ b, b < 4 → a ≠ b → (TX1 a).2.1 ≠ (TX1 b).2.1 := by decide +kernel
theorem tyX1_ok : ∀ k, k < 4 → parseFieldDescriptor (TX1 k).2.2.1 = some (tyX1 k) := by decide +kernel
abbrev cX1_init : ByteArray := prog_3_method_1_code
def yX1_init : MethodName := ⟨RX1, "<init>", "()V"⟩
abbrev cX1_findOrder : ByteArray := prog_3_method_2_code
def yX1_findOrder : MethodName := ⟨RX1, "findOrder", "(LOrchestraYear$Service;[LOrchestraYear$Work;)V"⟩
abbrev cX1_begin : ByteArray := prog_3_method_3_code
def yX1_begin : MethodName := ⟨RX1, "begin", "(LOrchestraYear$Service;)V"⟩
abbrev cX1_sumWait : ByteArray := prog_3_method_4_code
def yX1_sumWait : MethodName := ⟨RX1, "sumWait", "(LOrchestraYear$Service;[LOrchestraYear$Work;)I"⟩
abbrev cX1_minutesBetween : ByteArray := prog_3_method_5_code
def yX1_minutesBetween : MethodName := ⟨RX1, "minutesBetween", "([LOrchestraYear$Work;I)I"⟩
abbrev cX1_nextOrder : ByteArray := prog_3_method_6_code
def yX1_nextOrder : MethodName := ⟨RX1, "nextOrder", "()Z"⟩
abbrev cX1_swap : ByteArray := prog_3_method_7_code
def yX1_swap : MethodName := ⟨RX1, "swap", "(II)V"⟩
def RX2 : String := "OrchestraYear$Player"
def TX2 : u_T := fun k => match k with
  | 0 => ("OrchestraYear$Player", "post", "I", true)
  | 1 => ("OrchestraYear$Player", "doubles", "I", true)
  | 2 => ("OrchestraYear$Player", "desk", "I", true)
  | 3 => ("OrchestraYear$Player", "leaveFrom", "[I", true)
  | 4 => ("OrchestraYear$Player", "leaveTo", "[I", true)
  | _ => ("OrchestraYear$Player", "leaveCount", "I", false)
def tyX2 : Nat → FieldType := fun k => match k with
  | 0 => .int
  | 1 => .int
  | 2 => .int
  | 3 => .array .int
  | 4 => .array .int
  | _ => .int
theorem nmX2 : ∀ a, a < 6 → ∀ b, b < 6 → a ≠ b → (TX2 a).2.1 ≠ (TX2 b).2.1 := by decide +kernel
theorem tyX2_ok : ∀ k, k < 6 → parseFieldDescriptor (TX2 k).2.2.1 = some (tyX2 k) := by decide +kernel
abbrev cX2_init : ByteArray := prog_4_method_1_code
def yX2_init : MethodName := ⟨RX2, "<init>", "(III)V"⟩
abbrev cX2_addLeave : ByteArray := prog_4_method_2_code
def yX2_addLeave : MethodName := ⟨RX2, "addLeave", "(II)V"⟩
abbrev cX2_hasLeave : ByteArray := prog_4_method_3_code
def yX2_hasLeave : MethodName := ⟨RX2, "hasLeave", "(I)Z"⟩
abbrev cX2_plays : ByteArray := prog_4_method_4_code
def yX2_plays : MethodName := ⟨RX2, "plays", "(I)Z"⟩
def RX3 : String := "OrchestraYear$Reader"
def TX3 : u_T := fun k => match k with
  | 0 => ("OrchestraYear$Reader", "code", "[I", true)
  | 1 => ("OrchestraYear$Reader", "ends", "[I", true)
  | 2 => ("OrchestraYear$Reader", "tape", "[B", false)
  | 3 => ("OrchestraYear$Reader", "size", "I", false)
  | 4 => ("OrchestraYear$Reader", "codeSize", "I", false)
  | 5 => ("OrchestraYear$Reader", "parts", "I", false)
  | 6 => ("OrchestraYear$Reader", "token", "I", false)
  | 7 => ("OrchestraYear$Reader", "number", "I", false)
  | 8 => ("OrchestraYear$Reader", "place", "I", false)
  | 9 => ("OrchestraYear$Reader", "next", "I", false)
  | 10 => ("OrchestraYear$Reader", "open", "I", false)
  | _ => ("OrchestraYear$Reader", "fault", "I", false)
def tyX3 : Nat → FieldType := fun k => match k with
  | 0 => .array .int
  | 1 => .array .int
  | 2 => .array .byte
  | 3 => .int
  | 4 => .int
  | 5 => .int
  | 6 => .int
  | 7 => .int
  | 8 => .int
  | 9 => .int
  | 10 => .int
  | _ => .int
theorem nmX3 : ∀ a, a < 12 → ∀ b, b < 12 → a ≠ b → (TX3 a).2.1 ≠ (TX3 b).2.1 := by decide +kernel
theorem tyX3_ok : ∀ k, k < 12 → parseFieldDescriptor (TX3 k).2.2.1 = some (tyX3 k) := by decide +kernel
abbrev cX3_init : ByteArray := prog_5_method_1_code
def yX3_init : MethodName := ⟨RX3, "<init>", "()V"⟩
abbrev cX3_readTape : ByteArray := prog_5_method_2_code
def yX3_readTape : MethodName := ⟨RX3, "readTape", "([BI)I"⟩
abbrev cX3_readPart : ByteArray := prog_5_method_3_code
def yX3_readPart : MethodName := ⟨RX3, "readPart", "(I)V"⟩
abbrev cX3_readOr : ByteArray := prog_5_method_4_code
def yX3_readOr : MethodName := ⟨RX3, "readOr", "()V"⟩
abbrev cX3_readAnd : ByteArray := prog_5_method_5_code
def yX3_readAnd : MethodName := ⟨RX3, "readAnd", "()V"⟩
abbrev cX3_readNot : ByteArray := prog_5_method_6_code
def yX3_readNot : MethodName := ⟨RX3, "readNot", "()V"⟩
abbrev cX3_readSum : ByteArray := prog_5_method_7_code
def yX3_readSum : MethodName := ⟨RX3, "readSum", "()V"⟩
abbrev cX3_readTerm : ByteArray := prog_5_method_8_code
def yX3_readTerm : MethodName := ⟨RX3, "readTerm", "()V"⟩
abbrev cX3_readOne : ByteArray := prog_5_method_9_code
def yX3_readOne : MethodName := ⟨RX3, "readOne", "()V"⟩
abbrev cX3_openOne : ByteArray := prog_5_method_10_code
def yX3_openOne : MethodName := ⟨RX3, "openOne", "()Z"⟩
abbrev cX3_emitToken : ByteArray := prog_5_method_11_code
def yX3_emitToken : MethodName := ⟨RX3, "emitToken", "(I)V"⟩
abbrev cX3_emit : ByteArray := prog_5_method_12_code
def yX3_emit : MethodName := ⟨RX3, "emit", "(I)V"⟩
abbrev cX3_expect : ByteArray := prog_5_method_13_code
def yX3_expect : MethodName := ⟨RX3, "expect", "(I)V"⟩
abbrev cX3_fail : ByteArray := prog_5_method_14_code
def yX3_fail : MethodName := ⟨RX3, "fail", "()V"⟩
abbrev cX3_advance : ByteArray := prog_5_method_15_code
def yX3_advance : MethodName := ⟨RX3, "advance", "()V"⟩
abbrev cX3_takeWord : ByteArray := prog_5_method_16_code
def yX3_takeWord : MethodName := ⟨RX3, "takeWord", "()V"⟩
abbrev cX3_spells : ByteArray := prog_5_method_17_code
def yX3_spells : MethodName := ⟨RX3, "spells", "(I)Z"⟩
abbrev cX3_takeNumber : ByteArray := prog_5_method_18_code
def yX3_takeNumber : MethodName := ⟨RX3, "takeNumber", "()V"⟩
abbrev cX3_takeSign : ByteArray := prog_5_method_19_code
def yX3_takeSign : MethodName := ⟨RX3, "takeSign", "()V"⟩
abbrev cX3_isBlank : ByteArray := prog_5_method_20_code
def yX3_isBlank : MethodName := ⟨RX3, "isBlank", "(B)Z"⟩
abbrev cX3_isLetter : ByteArray := prog_5_method_21_code
def yX3_isLetter : MethodName := ⟨RX3, "isLetter", "(B)Z"⟩
abbrev cX3_isDigit : ByteArray := prog_5_method_22_code
def yX3_isDigit : MethodName := ⟨RX3, "isDigit", "(B)Z"⟩
def RX4 : String := "OrchestraYear$Reckoner"
def TX4 : u_T := fun k => match k with
  | 0 => ("OrchestraYear$Reckoner", "named", "[J", true)
  | 1 => ("OrchestraYear$Reckoner", "stack", "[J", true)
  | _ => ("OrchestraYear$Reckoner", "top", "I", false)
def tyX4 : Nat → FieldType := fun k => match k with
  | 0 => .array .long
  | 1 => .array .long
  | _ => .int
theorem nmX4 : ∀ a, a < 3 → ∀ b, b < 3 → a ≠ b → (TX4 a).2.1 ≠ (TX4 b).2.1 := by decide +kernel
theorem tyX4_ok : ∀ k, k < 3 → parseFieldDescriptor (TX4 k).2.2.1 = some (tyX4 k) := by decide +kernel
abbrev cX4_init : ByteArray := prog_6_method_1_code
def yX4_init : MethodName := ⟨RX4, "<init>", "()V"⟩
abbrev cX4_learnService : ByteArray := prog_6_method_2_code
def yX4_learnService : MethodName := ⟨RX4, "learnService", "(LOrchestraYear$Service;)V"⟩
abbrev cX4_learnPlayer : ByteArray := prog_6_method_3_code
def yX4_learnPlayer : MethodName := ⟨RX4, "learnPlayer", "(LOrchestraYear$Player;I)V"⟩
abbrev cX4_learnSittings : ByteArray := prog_6_method_4_code
def yX4_learnSittings : MethodName := ⟨RX4, "learnSittings", "(II)V"⟩
abbrev cX4_reckon : ByteArray := prog_6_method_5_code
def yX4_reckon : MethodName := ⟨RX4, "reckon", "(LOrchestraYear$Text;I)J"⟩
abbrev cX4_step : ByteArray := prog_6_method_6_code
def yX4_step : MethodName := ⟨RX4, "step", "(I)V"⟩
abbrev cX4_join : ByteArray := prog_6_method_7_code
def yX4_join : MethodName := ⟨RX4, "join", "(IJJ)J"⟩
abbrev cX4_push : ByteArray := prog_6_method_8_code
def yX4_push : MethodName := ⟨RX4, "push", "(J)V"⟩
abbrev cX4_pop : ByteArray := prog_6_method_9_code
def yX4_pop : MethodName := ⟨RX4, "pop", "()J"⟩
def RX5 : String := "OrchestraYear$Seater"
def TX5 : u_T := fun k => match k with
  | 0 => ("OrchestraYear$Seater", "fitting", "[I", true)
  | 1 => ("OrchestraYear$Seater", "holder", "[I", true)
  | 2 => ("OrchestraYear$Seater", "chairOf", "[I", true)
  | 3 => ("OrchestraYear$Seater", "queue", "[I", true)
  | 4 => ("OrchestraYear$Seater", "cameFrom", "[I", true)
  | 5 => ("OrchestraYear$Seater", "chairCount", "I", false)
  | _ => ("OrchestraYear$Seater", "settled", "I", false)
def tyX5 : Nat → FieldType := fun k => match k with
  | 0 => .array .int
  | 1 => .array .int
  | 2 => .array .int
  | 3 => .array .int
  | 4 => .array .int
  | 5 => .int
  | _ => .int
theorem nmX5 : ∀ a, a < 7 → ∀ b, b < 7 → a ≠ b → (TX5 a).2.1 ≠ (TX5 b).2.1 := by decide +kernel
theorem tyX5_ok : ∀ k, k < 7 → parseFieldDescriptor (TX5 k).2.2.1 = some (tyX5 k) := by decide +kernel
abbrev cX5_init : ByteArray := prog_7_method_1_code
def yX5_init : MethodName := ⟨RX5, "<init>", "()V"⟩
abbrev cX5_begin : ByteArray := prog_7_method_2_code
def yX5_begin : MethodName := ⟨RX5, "begin", "(I)V"⟩
abbrev cX5_allow : ByteArray := prog_7_method_3_code
def yX5_allow : MethodName := ⟨RX5, "allow", "(II)V"⟩
abbrev cX5_seatAll : ByteArray := prog_7_method_4_code
def yX5_seatAll : MethodName := ⟨RX5, "seatAll", "()V"⟩
abbrev cX5_countGaps : ByteArray := prog_7_method_5_code
def yX5_countGaps : MethodName := ⟨RX5, "countGaps", "()I"⟩
abbrev cX5_seatOneMore : ByteArray := prog_7_method_6_code
def yX5_seatOneMore : MethodName := ⟨RX5, "seatOneMore", "(I)Z"⟩
abbrev cX5_moveAlong : ByteArray := prog_7_method_7_code
def yX5_moveAlong : MethodName := ⟨RX5, "moveAlong", "(I)V"⟩
abbrev cX5_settle : ByteArray := prog_7_method_8_code
def yX5_settle : MethodName := ⟨RX5, "settle", "(I)V"⟩
abbrev cX5_canTake : ByteArray := prog_7_method_9_code
def yX5_canTake : MethodName := ⟨RX5, "canTake", "(II)Z"⟩
def RX6 : String := "OrchestraYear$Service"
def TX6 : u_T := fun k => match k with
  | 0 => ("OrchestraYear$Service", "kind", "I", true)
  | 1 => ("OrchestraYear$Service", "day", "I", true)
  | 2 => ("OrchestraYear$Service", "hour", "I", true)
  | 3 => ("OrchestraYear$Service", "length", "I", true)
  | 4 => ("OrchestraYear$Service", "called", "[I", true)
  | 5 => ("OrchestraYear$Service", "needs", "[I", true)
  | 6 => ("OrchestraYear$Service", "seating", "[I", true)
  | 7 => ("OrchestraYear$Service", "workCount", "I", false)
  | 8 => ("OrchestraYear$Service", "chairCount", "I", false)
  | 9 => ("OrchestraYear$Service", "gapCount", "I", false)
  | 10 => ("OrchestraYear$Service", "sitters", "I", false)
  | _ => ("OrchestraYear$Service", "seated", "Z", false)
def tyX6 : Nat → FieldType := fun k => match k with
  | 0 => .int
  | 1 => .int
  | 2 => .int
  | 3 => .int
  | 4 => .array .int
  | 5 => .array .int
  | 6 => .array .int
  | 7 => .int
  | 8 => .int
  | 9 => .int
  | 10 => .int
  | _ => .boolean
theorem nmX6 : ∀ a, a < 12 → ∀ b, b < 12 → a ≠ b → (TX6 a).2.1 ≠ (TX6 b).2.1 := by decide +kernel
theorem tyX6_ok : ∀ k, k < 12 → parseFieldDescriptor (TX6 k).2.2.1 = some (tyX6 k) := by decide +kernel
abbrev cX6_init : ByteArray := prog_8_method_1_code
def yX6_init : MethodName := ⟨RX6, "<init>", "(IIII)V"⟩
abbrev cX6_begins : ByteArray := prog_8_method_2_code
def yX6_begins : MethodName := ⟨RX6, "begins", "()I"⟩
abbrev cX6_ends : ByteArray := prog_8_method_3_code
def yX6_ends : MethodName := ⟨RX6, "ends", "()I"⟩
abbrev cX6_meets : ByteArray := prog_8_method_4_code
def yX6_meets : MethodName := ⟨RX6, "meets", "(LOrchestraYear$Service;)Z"⟩
abbrev cX6_isOfKind : ByteArray := prog_8_method_5_code
def yX6_isOfKind : MethodName := ⟨RX6, "isOfKind", "(I)Z"⟩
abbrev cX6_hasWork : ByteArray := prog_8_method_6_code
def yX6_hasWork : MethodName := ⟨RX6, "hasWork", "(I)Z"⟩
abbrev cX6_workAt : ByteArray := prog_8_method_7_code
def yX6_workAt : MethodName := ⟨RX6, "workAt", "(I)I"⟩
abbrev cX6_needWith : ByteArray := prog_8_method_8_code
def yX6_needWith : MethodName := ⟨RX6, "needWith", "(LOrchestraYear$Work;I)I"⟩
abbrev cX6_chairsWith : ByteArray := prog_8_method_9_code
def yX6_chairsWith : MethodName := ⟨RX6, "chairsWith", "(LOrchestraYear$Work;)I"⟩
abbrev cX6_addWork : ByteArray := prog_8_method_10_code
def yX6_addWork : MethodName := ⟨RX6, "addWork", "(ILOrchestraYear$Work;)V"⟩
abbrev cX6_sitDown : ByteArray := prog_8_method_11_code
def yX6_sitDown : MethodName := ⟨RX6, "sitDown", "([II)V"⟩
abbrev cX6_standUp : ByteArray := prog_8_method_12_code
def yX6_standUp : MethodName := ⟨RX6, "standUp", "()V"⟩
abbrev cX6_sits : ByteArray := prog_8_method_13_code
def yX6_sits : MethodName := ⟨RX6, "sits", "(I)Z"⟩
abbrev cX6_instrumentOf : ByteArray := prog_8_method_14_code
def yX6_instrumentOf : MethodName := ⟨RX6, "instrumentOf", "(I)I"⟩
def RX7 : String := "OrchestraYear$Text"
def TX7 : u_T := fun k => match k with
  | 0 => ("OrchestraYear$Text", "bytes", "[B", true)
  | 1 => ("OrchestraYear$Text", "code", "[I", true)
  | 2 => ("OrchestraYear$Text", "ends", "[I", true)
  | 3 => ("OrchestraYear$Text", "bars", "I", true)
  | 4 => ("OrchestraYear$Text", "forceDay", "I", false)
  | _ => ("OrchestraYear$Text", "toldAs", "I", false)
def tyX7 : Nat → FieldType := fun k => match k with
  | 0 => .array .byte
  | 1 => .array .int
  | 2 => .array .int
  | 3 => .int
  | 4 => .int
  | _ => .int
theorem nmX7 : ∀ a, a < 6 → ∀ b, b < 6 → a ≠ b → (TX7 a).2.1 ≠ (TX7 b).2.1 := by decide +kernel
theorem tyX7_ok : ∀ k, k < 6 → parseFieldDescriptor (TX7 k).2.2.1 = some (tyX7 k) := by decide +kernel
abbrev cX7_init : ByteArray := prog_9_method_1_code
def yX7_init : MethodName := ⟨RX7, "<init>", "([B[I[I)V"⟩
abbrev cX7_startOf : ByteArray := prog_9_method_2_code
def yX7_startOf : MethodName := ⟨RX7, "startOf", "(I)I"⟩
abbrev cX7_endOf : ByteArray := prog_9_method_3_code
def yX7_endOf : MethodName := ⟨RX7, "endOf", "(I)I"⟩
def RX8 : String := "OrchestraYear$Token"
def TX8 : u_T := fun k => match k with
  | _ => ("", "", "", false)
def tyX8 : Nat → FieldType := fun k => match k with
  | _ => .int
theorem nmX8 : ∀ a, a < 0 → ∀ b, b < 0 → a ≠ b → (TX8 a).2.1 ≠ (TX8 b).2.1 := by decide +kernel
theorem tyX8_ok : ∀ k, k < 0 → parseFieldDescriptor (TX8 k).2.2.1 = some (tyX8 k) := by decide +kernel
def RX9 : String := "OrchestraYear$Tray"
def TX9 : u_T := fun k => match k with
  | 0 => ("OrchestraYear$Tray", "pays", "[J", true)
  | 1 => ("OrchestraYear$Tray", "service", "LOrchestraYear$Service;", false)
  | 2 => ("OrchestraYear$Tray", "bytes", "[B", false)
  | 3 => ("OrchestraYear$Tray", "truths", "I", false)
  | 4 => ("OrchestraYear$Tray", "size", "I", false)
  | _ => ("OrchestraYear$Tray", "sort", "I", false)
def tyX9 : Nat → FieldType := fun k => match k with
  | 0 => .array .long
  | 1 => .object "OrchestraYear$Service"
  | 2 => .array .byte
  | 3 => .int
  | 4 => .int
  | _ => .int
theorem nmX9 : ∀ a, a < 6 → ∀ b, b < 6 → a ≠ b → (TX9 a).2.1 ≠ (TX9 b).2.1 := by decide +kernel
theorem tyX9_ok : ∀ k, k < 6 → parseFieldDescriptor (TX9 k).2.2.1 = some (tyX9 k) := by decide +kernel
abbrev cX9_init : ByteArray := prog_11_method_1_code
def yX9_init : MethodName := ⟨RX9, "<init>", "()V"⟩
abbrev cX9_elementAt : ByteArray := prog_11_method_2_code
def yX9_elementAt : MethodName := ⟨RX9, "elementAt", "(I)I"⟩
abbrev cX9_holdsKind : ByteArray := prog_11_method_3_code
def yX9_holdsKind : MethodName := ⟨RX9, "holdsKind", "(I)Z"⟩
def RX10 : String := "OrchestraYear$Work"
def TX10 : u_T := fun k => match k with
  | 0 => ("OrchestraYear$Work", "minutes", "I", true)
  | 1 => ("OrchestraYear$Work", "cost", "I", true)
  | 2 => ("OrchestraYear$Work", "needs", "I", true)
  | 3 => ("OrchestraYear$Work", "state", "I", false)
  | 4 => ("OrchestraYear$Work", "hiredFrom", "I", false)
  | _ => ("OrchestraYear$Work", "hiredTo", "I", false)
def tyX10 : Nat → FieldType := fun k => match k with
  | 0 => .int
  | 1 => .int
  | 2 => .int
  | 3 => .int
  | 4 => .int
  | _ => .int
theorem nmX10 : ∀ a, a < 6 → ∀ b, b < 6 → a ≠ b → (TX10 a).2.1 ≠ (TX10 b).2.1 := by decide +kernel
theorem tyX10_ok : ∀ k, k < 6 → parseFieldDescriptor (TX10 k).2.2.1 = some (tyX10 k) := by decide +kernel
abbrev cX10_init : ByteArray := prog_12_method_1_code
def yX10_init : MethodName := ⟨RX10, "<init>", "(III)V"⟩
abbrev cX10_needOf : ByteArray := prog_12_method_2_code
def yX10_needOf : MethodName := ⟨RX10, "needOf", "(I)I"⟩
abbrev cX10_canBePlayed : ByteArray := prog_12_method_3_code
def yX10_canBePlayed : MethodName := ⟨RX10, "canBePlayed", "(I)Z"⟩
def RX11 : String := "OrchestraYear"
def TX11 : u_T := fun k => match k with
  | 0 => ("OrchestraYear", "works", "[LOrchestraYear$Work;", true)
  | 1 => ("OrchestraYear", "players", "[LOrchestraYear$Player;", true)
  | 2 => ("OrchestraYear", "services", "[LOrchestraYear$Service;", true)
  | 3 => ("OrchestraYear", "texts", "[LOrchestraYear$Text;", true)
  | 4 => ("OrchestraYear", "trays", "[LOrchestraYear$Tray;", true)
  | 5 => ("OrchestraYear", "tape", "[B", true)
  | 6 => ("OrchestraYear", "reader", "LOrchestraYear$Reader;", true)
  | 7 => ("OrchestraYear", "reckoner", "LOrchestraYear$Reckoner;", true)
  | 8 => ("OrchestraYear", "seater", "LOrchestraYear$Seater;", true)
  | 9 => ("OrchestraYear", "orderer", "LOrchestraYear$Orderer;", true)
  | 10 => ("OrchestraYear", "chooser", "LOrchestraYear$Chooser;", true)
  | 11 => ("OrchestraYear", "workCount", "I", false)
  | 12 => ("OrchestraYear", "playerCount", "I", false)
  | 13 => ("OrchestraYear", "serviceCount", "I", false)
  | 14 => ("OrchestraYear", "textCount", "I", false)
  | 15 => ("OrchestraYear", "tapeSize", "I", false)
  | 16 => ("OrchestraYear", "tellings", "I", false)
  | _ => ("OrchestraYear", "hostStatus", "I", false)
def tyX11 : Nat → FieldType := fun k => match k with
  | 0 => .array (.object "OrchestraYear$Work")
  | 1 => .array (.object "OrchestraYear$Player")
  | 2 => .array (.object "OrchestraYear$Service")
  | 3 => .array (.object "OrchestraYear$Text")
  | 4 => .array (.object "OrchestraYear$Tray")
  | 5 => .array .byte
  | 6 => .object "OrchestraYear$Reader"
  | 7 => .object "OrchestraYear$Reckoner"
  | 8 => .object "OrchestraYear$Seater"
  | 9 => .object "OrchestraYear$Orderer"
  | 10 => .object "OrchestraYear$Chooser"
  | 11 => .int
  | 12 => .int
  | 13 => .int
  | 14 => .int
  | 15 => .int
  | 16 => .int
  | _ => .int
theorem nmX11 : ∀ a, a < 18 → ∀ b, b < 18 → a ≠ b → (TX11 a).2.1 ≠ (TX11 b).2.1 := by decide +kernel
theorem tyX11_ok : ∀ k, k < 18 → parseFieldDescriptor (TX11 k).2.2.1 = some (tyX11 k) := by decide +kernel
abbrev cX11_init : ByteArray := prog_1_method_1_code
def yX11_init : MethodName := ⟨RX11, "<init>", "()V"⟩
abbrev cX11_work : ByteArray := prog_1_method_2_code
def yX11_work : MethodName := ⟨RX11, "work", "(III)I"⟩
abbrev cX11_score : ByteArray := prog_1_method_3_code
def yX11_score : MethodName := ⟨RX11, "score", "(IIII)I"⟩
abbrev cX11_player : ByteArray := prog_1_method_4_code
def yX11_player : MethodName := ⟨RX11, "player", "(III)I"⟩
abbrev cX11_leave : ByteArray := prog_1_method_5_code
def yX11_leave : MethodName := ⟨RX11, "leave", "(III)I"⟩
abbrev cX11_service : ByteArray := prog_1_method_6_code
def yX11_service : MethodName := ⟨RX11, "service", "(IIII)I"⟩
abbrev cX11_call : ByteArray := prog_1_method_7_code
def yX11_call : MethodName := ⟨RX11, "call", "(II)I"⟩
abbrev cX11_workTold : ByteArray := prog_1_method_8_code
def yX11_workTold : MethodName := ⟨RX11, "workTold", "(II)I"⟩
abbrev cX11_played : ByteArray := prog_1_method_9_code
def yX11_played : MethodName := ⟨RX11, "played", "(II)I"⟩
abbrev cX11_playerTold : ByteArray := prog_1_method_10_code
def yX11_playerTold : MethodName := ⟨RX11, "playerTold", "(II)I"⟩
abbrev cX11_serviceTold : ByteArray := prog_1_method_11_code
def yX11_serviceTold : MethodName := ⟨RX11, "serviceTold", "(II)I"⟩
abbrev cX11_feed : ByteArray := prog_1_method_12_code
def yX11_feed : MethodName := ⟨RX11, "feed", "(IJ)I"⟩
abbrev cX11_text : ByteArray := prog_1_method_13_code
def yX11_text : MethodName := ⟨RX11, "text", "()I"⟩
abbrev cX11_force : ByteArray := prog_1_method_14_code
def yX11_force : MethodName := ⟨RX11, "force", "(II)I"⟩
abbrev cX11_inForce : ByteArray := prog_1_method_15_code
def yX11_inForce : MethodName := ⟨RX11, "inForce", "(I)I"⟩
abbrev cX11_may : ByteArray := prog_1_method_16_code
def yX11_may : MethodName := ⟨RX11, "may", "(III)I"⟩
abbrev cX11_worth : ByteArray := prog_1_method_17_code
def yX11_worth : MethodName := ⟨RX11, "worth", "(IIII)J"⟩
abbrev cX11_gaps : ByteArray := prog_1_method_18_code
def yX11_gaps : MethodName := ⟨RX11, "gaps", "(I)I"⟩
abbrev cX11_chair : ByteArray := prog_1_method_19_code
def yX11_chair : MethodName := ⟨RX11, "chair", "(IIZ)I"⟩
abbrev cX11_seat : ByteArray := prog_1_method_20_code
def yX11_seat : MethodName := ⟨RX11, "seat", "(I)I"⟩
abbrev cX11_rise : ByteArray := prog_1_method_21_code
def yX11_rise : MethodName := ⟨RX11, "rise", "(I)I"⟩
abbrev cX11_due : ByteArray := prog_1_method_22_code
def yX11_due : MethodName := ⟨RX11, "due", "(IIII)J"⟩
abbrev cX11_waits : ByteArray := prog_1_method_23_code
def yX11_waits : MethodName := ⟨RX11, "waits", "(I)I"⟩
abbrev cX11_order : ByteArray := prog_1_method_24_code
def yX11_order : MethodName := ⟨RX11, "order", "(II)I"⟩
abbrev cX11_programme : ByteArray := prog_1_method_25_code
def yX11_programme : MethodName := ⟨RX11, "programme", "(III)I"⟩
abbrev cX11_price : ByteArray := prog_1_method_26_code
def yX11_price : MethodName := ⟨RX11, "price", "(I)I"⟩
abbrev cX11_count : ByteArray := prog_1_method_27_code
def yX11_count : MethodName := ⟨RX11, "count", "(I)I"⟩
abbrev cX11_put : ByteArray := prog_1_method_28_code
def yX11_put : MethodName := ⟨RX11, "put", "(III)I"⟩
abbrev cX11_forge : ByteArray := prog_1_method_29_code
def yX11_forge : MethodName := ⟨RX11, "forge", "(III)I"⟩
abbrev cX11_status : ByteArray := prog_1_method_30_code
def yX11_status : MethodName := ⟨RX11, "status", "()I"⟩
abbrev cX11_isWithin : ByteArray := prog_1_method_31_code
def yX11_isWithin : MethodName := ⟨RX11, "isWithin", "(III)Z"⟩
abbrev cX11_isDay : ByteArray := prog_1_method_32_code
def yX11_isDay : MethodName := ⟨RX11, "isDay", "(I)Z"⟩
abbrev cX11_isSpan : ByteArray := prog_1_method_33_code
def yX11_isSpan : MethodName := ⟨RX11, "isSpan", "(II)Z"⟩
abbrev cX11_isInstrument : ByteArray := prog_1_method_34_code
def yX11_isInstrument : MethodName := ⟨RX11, "isInstrument", "(I)Z"⟩
abbrev cX11_findWork : ByteArray := prog_1_method_35_code
def yX11_findWork : MethodName := ⟨RX11, "findWork", "(I)LOrchestraYear$Work;"⟩
abbrev cX11_findPlayer : ByteArray := prog_1_method_36_code
def yX11_findPlayer : MethodName := ⟨RX11, "findPlayer", "(I)LOrchestraYear$Player;"⟩
abbrev cX11_findService : ByteArray := prog_1_method_37_code
def yX11_findService : MethodName := ⟨RX11, "findService", "(I)LOrchestraYear$Service;"⟩
abbrev cX11_countSittings : ByteArray := prog_1_method_38_code
def yX11_countSittings : MethodName := ⟨RX11, "countSittings", "(I)I"⟩
abbrev cX11_countSeated : ByteArray := prog_1_method_39_code
def yX11_countSeated : MethodName := ⟨RX11, "countSeated", "()I"⟩
abbrev cX11_countSeatedGaps : ByteArray := prog_1_method_40_code
def yX11_countSeatedGaps : MethodName := ⟨RX11, "countSeatedGaps", "()I"⟩
abbrev cX11_keepReadText : ByteArray := prog_1_method_41_code
def yX11_keepReadText : MethodName := ⟨RX11, "keepReadText", "()V"⟩
abbrev cX11_tellForce : ByteArray := prog_1_method_42_code
def yX11_tellForce : MethodName := ⟨RX11, "tellForce", "(II)V"⟩
abbrev cX11_findInForce : ByteArray := prog_1_method_43_code
def yX11_findInForce : MethodName := ⟨RX11, "findInForce", "(I)I"⟩
abbrev cX11_learn : ByteArray := prog_1_method_44_code
def yX11_learn : MethodName := ⟨RX11, "learn", "(LOrchestraYear$Service;II)V"⟩
abbrev cX11_findHindrance : ByteArray := prog_1_method_45_code
def yX11_findHindrance : MethodName := ⟨RX11, "findHindrance", "(LOrchestraYear$Service;II)I"⟩
abbrev cX11_sitsInMeeting : ByteArray := prog_1_method_46_code
def yX11_sitsInMeeting : MethodName := ⟨RX11, "sitsInMeeting", "(LOrchestraYear$Service;I)Z"⟩
abbrev cX11_findSeating : ByteArray := prog_1_method_47_code
def yX11_findSeating : MethodName := ⟨RX11, "findSeating", "(LOrchestraYear$Service;)V"⟩
abbrev cX11_findFitting : ByteArray := prog_1_method_48_code
def yX11_findFitting : MethodName := ⟨RX11, "findFitting", "(LOrchestraYear$Service;I)I"⟩
abbrev cX11_sumDue : ByteArray := prog_1_method_49_code
def yX11_sumDue : MethodName := ⟨RX11, "sumDue", "(IIII)J"⟩
abbrev cX11_findDue : ByteArray := prog_1_method_50_code
def yX11_findDue : MethodName := ⟨RX11, "findDue", "(LOrchestraYear$Service;II)J"⟩
abbrev cX11_hostRefuses : ByteArray := prog_1_method_51_code
def yX11_hostRefuses : MethodName := ⟨RX11, "hostRefuses", "(I)I"⟩
abbrev cX11_hostAnswers : ByteArray := prog_1_method_52_code
def yX11_hostAnswers : MethodName := ⟨RX11, "hostAnswers", "(I)I"⟩
abbrev cX11_isPuttable : ByteArray := prog_1_method_53_code
def yX11_isPuttable : MethodName := ⟨RX11, "isPuttable", "(II)Z"⟩
abbrev cX11_putBytes : ByteArray := prog_1_method_54_code
def yX11_putBytes : MethodName := ⟨RX11, "putBytes", "(LOrchestraYear$Tray;I)V"⟩
abbrev cX11_putPays : ByteArray := prog_1_method_55_code
def yX11_putPays : MethodName := ⟨RX11, "putPays", "(LOrchestraYear$Tray;)V"⟩
abbrev cX11_putTruths : ByteArray := prog_1_method_56_code
def yX11_putTruths : MethodName := ⟨RX11, "putTruths", "(LOrchestraYear$Tray;I)V"⟩
abbrev cX11_forgeDay : ByteArray := prog_1_method_57_code
def yX11_forgeDay : MethodName := ⟨RX11, "forgeDay", "(LOrchestraYear$Tray;I)I"⟩
abbrev cX11_forgePlace : ByteArray := prog_1_method_58_code
def yX11_forgePlace : MethodName := ⟨RX11, "forgePlace", "(LOrchestraYear$Tray;II)I"⟩
abbrev cX11_forgeCopy : ByteArray := prog_1_method_59_code
def yX11_forgeCopy : MethodName := ⟨RX11, "forgeCopy", "(LOrchestraYear$Tray;I)I"⟩
abbrev cX11_forgeLaid : ByteArray := prog_1_method_60_code
def yX11_forgeLaid : MethodName := ⟨RX11, "forgeLaid", "(LOrchestraYear$Tray;)I"⟩
def RX12 : String := "OrchestraYearModel"
def TX12 : u_T := fun k => match k with
  | 0 => ("OrchestraYearModel", "works", "I", false)
  | 1 => ("OrchestraYearModel", "minutes", "[I", true)
  | 2 => ("OrchestraYearModel", "price", "[I", true)
  | 3 => ("OrchestraYearModel", "needs", "[I", true)
  | 4 => ("OrchestraYearModel", "how", "[I", true)
  | 5 => ("OrchestraYearModel", "hiredFrom", "[I", true)
  | 6 => ("OrchestraYearModel", "hiredTo", "[I", true)
  | 7 => ("OrchestraYearModel", "players", "I", false)
  | 8 => ("OrchestraYearModel", "post", "[I", true)
  | 9 => ("OrchestraYearModel", "doubles", "[I", true)
  | 10 => ("OrchestraYearModel", "desk", "[I", true)
  | 11 => ("OrchestraYearModel", "leaves", "[I", true)
  | 12 => ("OrchestraYearModel", "leaveFrom", "[I", true)
  | 13 => ("OrchestraYearModel", "leaveTo", "[I", true)
  | 14 => ("OrchestraYearModel", "services", "I", false)
  | 15 => ("OrchestraYearModel", "kind", "[I", true)
  | 16 => ("OrchestraYearModel", "day", "[I", true)
  | 17 => ("OrchestraYearModel", "hour", "[I", true)
  | 18 => ("OrchestraYearModel", "length", "[I", true)
  | 19 => ("OrchestraYearModel", "many", "[I", true)
  | 20 => ("OrchestraYearModel", "workOf", "[I", true)
  | 21 => ("OrchestraYearModel", "seat", "[I", true)
  | 22 => ("OrchestraYearModel", "isSeated", "[Z", true)
  | 23 => ("OrchestraYearModel", "tape", "[I", true)
  | 24 => ("OrchestraYearModel", "taped", "I", false)
  | 25 => ("OrchestraYearModel", "texts", "I", false)
  | 26 => ("OrchestraYearModel", "textSize", "[I", true)
  | 27 => ("OrchestraYearModel", "bytes", "[I", true)
  | 28 => ("OrchestraYearModel", "op", "[I", true)
  | 29 => ("OrchestraYearModel", "worth", "[I", true)
  | 30 => ("OrchestraYearModel", "bars", "[I", true)
  | 31 => ("OrchestraYearModel", "part", "[I", true)
  | 32 => ("OrchestraYearModel", "textDay", "[I", true)
  | 33 => ("OrchestraYearModel", "rank", "[I", true)
  | 34 => ("OrchestraYearModel", "told", "I", false)
  | 35 => ("OrchestraYearModel", "tray", "[I", true)
  | 36 => ("OrchestraYearModel", "trayOf", "[I", true)
  | 37 => ("OrchestraYearModel", "traySize", "[I", true)
  | 38 => ("OrchestraYearModel", "trayRow", "[J", true)
  | 39 => ("OrchestraYearModel", "status", "I", false)
  | 40 => ("OrchestraYearModel", "first", "[I", true)
  | 41 => ("OrchestraYearModel", "words", "[I", true)
  | 42 => ("OrchestraYearModel", "reading", "I", false)
  | 43 => ("OrchestraYearModel", "at", "I", false)
  | 44 => ("OrchestraYearModel", "begin", "I", false)
  | 45 => ("OrchestraYearModel", "token", "I", false)
  | 46 => ("OrchestraYearModel", "value", "I", false)
  | 47 => ("OrchestraYearModel", "wrong", "I", false)
  | 48 => ("OrchestraYearModel", "open", "I", false)
  | 49 => ("OrchestraYearModel", "codes", "I", false)
  | 50 => ("OrchestraYearModel", "pile", "[J", true)
  | 51 => ("OrchestraYearModel", "can", "[Z", true)
  | 52 => ("OrchestraYearModel", "filled", "[I", true)
  | 53 => ("OrchestraYearModel", "found", "[I", true)
  | 54 => ("OrchestraYearModel", "row", "[I", true)
  | 55 => ("OrchestraYearModel", "bestRow", "[I", true)
  | 56 => ("OrchestraYearModel", "sorted", "[I", true)
  | _ => ("OrchestraYearModel", "there", "[I", true)
def tyX12 : Nat → FieldType := fun k => match k with
  | 0 => .int
  | 1 => .array .int
  | 2 => .array .int
  | 3 => .array .int
  | 4 => .array .int
  | 5 => .array .int
  | 6 => .array .int
  | 7 => .int
  | 8 => .array .int
  | 9 => .array .int
  | 10 => .array .int
  | 11 => .array .int
  | 12 => .array .int
  | 13 => .array .int
  | 14 => .int
  | 15 => .array .int
  | 16 => .array .int
  | 17 => .array .int
  | 18 => .array .int
  | 19 => .array .int
  | 20 => .array .int
  | 21 => .array .int
  | 22 => .array .boolean
  | 23 => .array .int
  | 24 => .int
  | 25 => .int
  | 26 => .array .int
  | 27 => .array .int
  | 28 => .array .int
  | 29 => .array .int
  | 30 => .array .int
  | 31 => .array .int
  | 32 => .array .int
  | 33 => .array .int
  | 34 => .int
  | 35 => .array .int
  | 36 => .array .int
  | 37 => .array .int
  | 38 => .array .long
  | 39 => .int
  | 40 => .array .int
  | 41 => .array .int
  | 42 => .int
  | 43 => .int
  | 44 => .int
  | 45 => .int
  | 46 => .int
  | 47 => .int
  | 48 => .int
  | 49 => .int
  | 50 => .array .long
  | 51 => .array .boolean
  | 52 => .array .int
  | 53 => .array .int
  | 54 => .array .int
  | 55 => .array .int
  | 56 => .array .int
  | _ => .array .int
theorem nmX12 : ∀ a, a < 58 → ∀ b, b < 58 → a ≠ b → (TX12 a).2.1 ≠ (TX12 b).2.1 := by decide +kernel
theorem tyX12_ok : ∀ k, k < 58 → parseFieldDescriptor (TX12 k).2.2.1 = some (tyX12 k) := by decide +kernel
abbrev cX12_init : ByteArray := prog_14_method_1_code
def yX12_init : MethodName := ⟨RX12, "<init>", "()V"⟩
abbrev cX12_in : ByteArray := prog_14_method_2_code
def yX12_in : MethodName := ⟨RX12, "in", "(III)Z"⟩
abbrev cX12_isWork : ByteArray := prog_14_method_3_code
def yX12_isWork : MethodName := ⟨RX12, "isWork", "(I)Z"⟩
abbrev cX12_isPlayer : ByteArray := prog_14_method_4_code
def yX12_isPlayer : MethodName := ⟨RX12, "isPlayer", "(I)Z"⟩
abbrev cX12_isService : ByteArray := prog_14_method_5_code
def yX12_isService : MethodName := ⟨RX12, "isService", "(I)Z"⟩
abbrev cX12_isDay : ByteArray := prog_14_method_6_code
def yX12_isDay : MethodName := ⟨RX12, "isDay", "(I)Z"⟩
abbrev cX12_isInstrument : ByteArray := prog_14_method_7_code
def yX12_isInstrument : MethodName := ⟨RX12, "isInstrument", "(I)Z"⟩
abbrev cX12_work : ByteArray := prog_14_method_8_code
def yX12_work : MethodName := ⟨RX12, "work", "(III)I"⟩
abbrev cX12_score : ByteArray := prog_14_method_9_code
def yX12_score : MethodName := ⟨RX12, "score", "(IIII)I"⟩
abbrev cX12_isPlayed : ByteArray := prog_14_method_10_code
def yX12_isPlayed : MethodName := ⟨RX12, "isPlayed", "(II)Z"⟩
abbrev cX12_workTold : ByteArray := prog_14_method_11_code
def yX12_workTold : MethodName := ⟨RX12, "workTold", "(II)I"⟩
abbrev cX12_played : ByteArray := prog_14_method_12_code
def yX12_played : MethodName := ⟨RX12, "played", "(II)I"⟩
abbrev cX12_player : ByteArray := prog_14_method_13_code
def yX12_player : MethodName := ⟨RX12, "player", "(III)I"⟩
abbrev cX12_leave : ByteArray := prog_14_method_14_code
def yX12_leave : MethodName := ⟨RX12, "leave", "(III)I"⟩
abbrev cX12_isAway : ByteArray := prog_14_method_15_code
def yX12_isAway : MethodName := ⟨RX12, "isAway", "(II)Z"⟩
abbrev cX12_chairOf : ByteArray := prog_14_method_16_code
def yX12_chairOf : MethodName := ⟨RX12, "chairOf", "(II)I"⟩
abbrev cX12_playerTold : ByteArray := prog_14_method_17_code
def yX12_playerTold : MethodName := ⟨RX12, "playerTold", "(II)I"⟩
abbrev cX12_service : ByteArray := prog_14_method_18_code
def yX12_service : MethodName := ⟨RX12, "service", "(IIII)I"⟩
abbrev cX12_needOf : ByteArray := prog_14_method_19_code
def yX12_needOf : MethodName := ⟨RX12, "needOf", "(II)I"⟩
abbrev cX12_need : ByteArray := prog_14_method_20_code
def yX12_need : MethodName := ⟨RX12, "need", "(III)I"⟩
abbrev cX12_chairs : ByteArray := prog_14_method_21_code
def yX12_chairs : MethodName := ⟨RX12, "chairs", "(II)I"⟩
abbrev cX12_instrumentOf : ByteArray := prog_14_method_22_code
def yX12_instrumentOf : MethodName := ⟨RX12, "instrumentOf", "(II)I"⟩
abbrev cX12_call : ByteArray := prog_14_method_23_code
def yX12_call : MethodName := ⟨RX12, "call", "(II)I"⟩
abbrev cX12_gapsIn : ByteArray := prog_14_method_24_code
def yX12_gapsIn : MethodName := ⟨RX12, "gapsIn", "(I)I"⟩
abbrev cX12_serviceTold : ByteArray := prog_14_method_25_code
def yX12_serviceTold : MethodName := ⟨RX12, "serviceTold", "(II)I"⟩
abbrev cX12_byteAt : ByteArray := prog_14_method_26_code
def yX12_byteAt : MethodName := ⟨RX12, "byteAt", "(I)I"⟩
abbrev cX12_isLetter : ByteArray := prog_14_method_27_code
def yX12_isLetter : MethodName := ⟨RX12, "isLetter", "(I)Z"⟩
abbrev cX12_isDigit : ByteArray := prog_14_method_28_code
def yX12_isDigit : MethodName := ⟨RX12, "isDigit", "(I)Z"⟩
abbrev cX12_next : ByteArray := prog_14_method_29_code
def yX12_next : MethodName := ⟨RX12, "next", "()V"⟩
abbrev cX12_number : ByteArray := prog_14_method_30_code
def yX12_number : MethodName := ⟨RX12, "number", "()V"⟩
abbrev cX12_word : ByteArray := prog_14_method_31_code
def yX12_word : MethodName := ⟨RX12, "word", "()V"⟩
abbrev cX12_isWrong : ByteArray := prog_14_method_32_code
def yX12_isWrong : MethodName := ⟨RX12, "isWrong", "()Z"⟩
abbrev cX12_cannot : ByteArray := prog_14_method_33_code
def yX12_cannot : MethodName := ⟨RX12, "cannot", "()V"⟩
abbrev cX12_need_ : ByteArray := prog_14_method_34_code
def yX12_need_ : MethodName := ⟨RX12, "need", "(I)V"⟩
abbrev cX12_opens : ByteArray := prog_14_method_35_code
def yX12_opens : MethodName := ⟨RX12, "opens", "()V"⟩
abbrev cX12_emit : ByteArray := prog_14_method_36_code
def yX12_emit : MethodName := ⟨RX12, "emit", "(II)V"⟩
abbrev cX12_reads : ByteArray := prog_14_method_37_code
def yX12_reads : MethodName := ⟨RX12, "reads", "(I)V"⟩
abbrev cX12_told : ByteArray := prog_14_method_38_code
def yX12_told : MethodName := ⟨RX12, "told", "(I)V"⟩
abbrev cX12_either : ByteArray := prog_14_method_39_code
def yX12_either : MethodName := ⟨RX12, "either", "()V"⟩
abbrev cX12_both : ByteArray := prog_14_method_40_code
def yX12_both : MethodName := ⟨RX12, "both", "()V"⟩
abbrev cX12_not : ByteArray := prog_14_method_41_code
def yX12_not : MethodName := ⟨RX12, "not", "()V"⟩
abbrev cX12_sum : ByteArray := prog_14_method_42_code
def yX12_sum : MethodName := ⟨RX12, "sum", "()V"⟩
abbrev cX12_term : ByteArray := prog_14_method_43_code
def yX12_term : MethodName := ⟨RX12, "term", "()V"⟩
abbrev cX12_one : ByteArray := prog_14_method_44_code
def yX12_one : MethodName := ⟨RX12, "one", "()V"⟩
abbrev cX12_begins : ByteArray := prog_14_method_45_code
def yX12_begins : MethodName := ⟨RX12, "begins", "(I)I"⟩
abbrev cX12_ends : ByteArray := prog_14_method_46_code
def yX12_ends : MethodName := ⟨RX12, "ends", "(I)I"⟩
abbrev cX12_week : ByteArray := prog_14_method_47_code
def yX12_week : MethodName := ⟨RX12, "week", "(II)I"⟩
abbrev cX12_rest : ByteArray := prog_14_method_48_code
def yX12_rest : MethodName := ⟨RX12, "rest", "(II)I"⟩
abbrev cX12_named : ByteArray := prog_14_method_49_code
def yX12_named : MethodName := ⟨RX12, "named", "(IIII)I"⟩
abbrev cX12_two : ByteArray := prog_14_method_50_code
def yX12_two : MethodName := ⟨RX12, "two", "(IJJ)J"⟩
abbrev cX12_worthOf : ByteArray := prog_14_method_51_code
def yX12_worthOf : MethodName := ⟨RX12, "worthOf", "(IIIII)J"⟩
abbrev cX12_textOn : ByteArray := prog_14_method_52_code
def yX12_textOn : MethodName := ⟨RX12, "textOn", "(I)I"⟩
abbrev cX12_feed : ByteArray := prog_14_method_53_code
def yX12_feed : MethodName := ⟨RX12, "feed", "(IJ)I"⟩
abbrev cX12_text : ByteArray := prog_14_method_54_code
def yX12_text : MethodName := ⟨RX12, "text", "()I"⟩
abbrev cX12_force : ByteArray := prog_14_method_55_code
def yX12_force : MethodName := ⟨RX12, "force", "(II)I"⟩
abbrev cX12_inForce : ByteArray := prog_14_method_56_code
def yX12_inForce : MethodName := ⟨RX12, "inForce", "(I)I"⟩
abbrev cX12_hinders : ByteArray := prog_14_method_57_code
def yX12_hinders : MethodName := ⟨RX12, "hinders", "(III)I"⟩
abbrev cX12_may : ByteArray := prog_14_method_58_code
def yX12_may : MethodName := ⟨RX12, "may", "(III)I"⟩
abbrev cX12_worth : ByteArray := prog_14_method_59_code
def yX12_worth : MethodName := ⟨RX12, "worth", "(IIII)J"⟩
abbrev cX12_seats : ByteArray := prog_14_method_60_code
def yX12_seats : MethodName := ⟨RX12, "seats", "(I)I"⟩
abbrev cX12_choice : ByteArray := prog_14_method_61_code
def yX12_choice : MethodName := ⟨RX12, "choice", "(III)I"⟩
abbrev cX12_gaps : ByteArray := prog_14_method_62_code
def yX12_gaps : MethodName := ⟨RX12, "gaps", "(I)I"⟩
abbrev cX12_chair : ByteArray := prog_14_method_63_code
def yX12_chair : MethodName := ⟨RX12, "chair", "(IIZ)I"⟩
abbrev cX12_seat : ByteArray := prog_14_method_64_code
def yX12_seat : MethodName := ⟨RX12, "seat", "(I)I"⟩
abbrev cX12_rise : ByteArray := prog_14_method_65_code
def yX12_rise : MethodName := ⟨RX12, "rise", "(I)I"⟩
abbrev cX12_dueOf : ByteArray := prog_14_method_66_code
def yX12_dueOf : MethodName := ⟨RX12, "dueOf", "(IIII)J"⟩
abbrev cX12_due : ByteArray := prog_14_method_67_code
def yX12_due : MethodName := ⟨RX12, "due", "(IIII)J"⟩
abbrev cX12_waitOf : ByteArray := prog_14_method_68_code
def yX12_waitOf : MethodName := ⟨RX12, "waitOf", "(I)I"⟩
abbrev cX12_orders : ByteArray := prog_14_method_69_code
def yX12_orders : MethodName := ⟨RX12, "orders", "(I)I"⟩
abbrev cX12_isOrder : ByteArray := prog_14_method_70_code
def yX12_isOrder : MethodName := ⟨RX12, "isOrder", "(III)Z"⟩
abbrev cX12_waits : ByteArray := prog_14_method_71_code
def yX12_waits : MethodName := ⟨RX12, "waits", "(I)I"⟩
abbrev cX12_order : ByteArray := prog_14_method_72_code
def yX12_order : MethodName := ⟨RX12, "order", "(II)I"⟩
abbrev cX12_priceOf : ByteArray := prog_14_method_73_code
def yX12_priceOf : MethodName := ⟨RX12, "priceOf", "(I)I"⟩
abbrev cX12_isProgramme : ByteArray := prog_14_method_74_code
def yX12_isProgramme : MethodName := ⟨RX12, "isProgramme", "(IIII)Z"⟩
abbrev cX12_programme : ByteArray := prog_14_method_75_code
def yX12_programme : MethodName := ⟨RX12, "programme", "(III)I"⟩
abbrev cX12_isBefore : ByteArray := prog_14_method_76_code
def yX12_isBefore : MethodName := ⟨RX12, "isBefore", "(II)Z"⟩
abbrev cX12_price : ByteArray := prog_14_method_77_code
def yX12_price : MethodName := ⟨RX12, "price", "(I)I"⟩
abbrev cX12_count : ByteArray := prog_14_method_78_code
def yX12_count : MethodName := ⟨RX12, "count", "(I)I"⟩
abbrev cX12_done : ByteArray := prog_14_method_79_code
def yX12_done : MethodName := ⟨RX12, "done", "(I)I"⟩
abbrev cX12_refuse : ByteArray := prog_14_method_80_code
def yX12_refuse : MethodName := ⟨RX12, "refuse", "(I)I"⟩
abbrev cX12_put : ByteArray := prog_14_method_81_code
def yX12_put : MethodName := ⟨RX12, "put", "(III)I"⟩
abbrev cX12_isUnder : ByteArray := prog_14_method_82_code
def yX12_isUnder : MethodName := ⟨RX12, "isUnder", "(II)Z"⟩
abbrev cX12_asService : ByteArray := prog_14_method_83_code
def yX12_asService : MethodName := ⟨RX12, "asService", "(III)I"⟩
abbrev cX12_asRow : ByteArray := prog_14_method_84_code
def yX12_asRow : MethodName := ⟨RX12, "asRow", "(III)I"⟩
abbrev cX12_copied : ByteArray := prog_14_method_85_code
def yX12_copied : MethodName := ⟨RX12, "copied", "(II)I"⟩
abbrev cX12_forge : ByteArray := prog_14_method_86_code
def yX12_forge : MethodName := ⟨RX12, "forge", "(III)I"⟩
abbrev cX12_status : ByteArray := prog_14_method_87_code
def yX12_status : MethodName := ⟨RX12, "status", "()I"⟩
def RJ11 : String := "java/lang/Character"
def TJ11 : u_T := fun k => match k with
  | _ => ("", "", "", false)
def tyJ11 : Nat → FieldType := fun k => match k with
  | _ => .int
theorem nmJ11 : ∀ a, a < 0 → ∀ b, b < 0 → a ≠ b → (TJ11 a).2.1 ≠ (TJ11 b).2.1 := by decide +kernel
theorem tyJ11_ok : ∀ k, k < 0 → parseFieldDescriptor (TJ11 k).2.2.1 = some (tyJ11 k) := by decide +kernel
abbrev cJ11_isValidCodePoint_9a6ad : ByteArray := prog_15_method_11_code
def yJ11_isValidCodePoint_9a6ad : MethodName := ⟨RJ11, "isValidCodePoint", "(I)Z"⟩
abbrev cJ11_highSurrogate_5068e : ByteArray := prog_15_method_28_code
def yJ11_highSurrogate_5068e : MethodName := ⟨RJ11, "highSurrogate", "(I)C"⟩
abbrev cJ11_lowSurrogate_5068e : ByteArray := prog_15_method_29_code
def yJ11_lowSurrogate_5068e : MethodName := ⟨RJ11, "lowSurrogate", "(I)C"⟩
def RJx8e188 : String := "java/lang/Cloneable"
def TJx8e188 : u_T := fun k => match k with
  | _ => ("", "", "", false)
def tyJx8e188 : Nat → FieldType := fun k => match k with
  | _ => .int
theorem nmJx8e188 : ∀ a, a < 0 → ∀ b, b < 0 → a ≠ b → (TJx8e188 a).2.1 ≠ (TJx8e188 b).2.1 := by decide +kernel
theorem tyJx8e188_ok : ∀ k, k < 0 → parseFieldDescriptor (TJx8e188 k).2.2.1 = some (tyJx8e188 k) := by decide +kernel
def RJ9 : String := "java/lang/Math"
def TJ9 : u_T := fun k => match k with
  | _ => ("", "", "", false)
def tyJ9 : Nat → FieldType := fun k => match k with
  | _ => .int
theorem nmJ9 : ∀ a, a < 0 → ∀ b, b < 0 → a ≠ b → (TJ9 a).2.1 ≠ (TJ9 b).2.1 := by decide +kernel
theorem tyJ9_ok : ∀ k, k < 0 → parseFieldDescriptor (TJ9 k).2.2.1 = some (tyJ9 k) := by decide +kernel
abbrev cJ9_floorMod_7cf53 : ByteArray := prog_17_method_50_code
def yJ9_floorMod_7cf53 : MethodName := ⟨RJ9, "floorMod", "(II)I"⟩
abbrev cJ9_max_7cf53 : ByteArray := prog_17_method_65_code
def yJ9_max_7cf53 : MethodName := ⟨RJ9, "max", "(II)I"⟩
abbrev cJ9_min_7cf53 : ByteArray := prog_17_method_69_code
def yJ9_min_7cf53 : MethodName := ⟨RJ9, "min", "(II)I"⟩
def RJ0 : String := "java/lang/String"
def TJ0 : u_T := fun k => match k with
  | _ => ("", "", "", false)
def tyJ0 : Nat → FieldType := fun k => match k with
  | _ => .int
theorem nmJ0 : ∀ a, a < 0 → ∀ b, b < 0 → a ≠ b → (TJ0 a).2.1 ≠ (TJ0 b).2.1 := by decide +kernel
theorem tyJ0_ok : ∀ k, k < 0 → parseFieldDescriptor (TJ0 k).2.2.1 = some (tyJ0 k) := by decide +kernel
abbrev cJ0_length_8abf5 : ByteArray := prog_18_method_54_code
def yJ0_length_8abf5 : MethodName := ⟨RJ0, "length", "()I"⟩
abbrev cJ0_charAt_5068e : ByteArray := prog_18_method_56_code
def yJ0_charAt_5068e : MethodName := ⟨RJ0, "charAt", "(I)C"⟩
abbrev cJ0_indexOf_0f7a4 : ByteArray := prog_18_method_79_code
def yJ0_indexOf_0f7a4 : MethodName := ⟨RJ0, "indexOf", "(I)I"⟩
abbrev cJ0_indexOf_7cf53 : ByteArray := prog_18_method_80_code
def yJ0_indexOf_7cf53 : MethodName := ⟨RJ0, "indexOf", "(II)I"⟩
abbrev cJ0_coder_7d493 : ByteArray := prog_18_method_152_code
def yJ0_coder_7d493 : MethodName := ⟨RJ0, "coder", "()B"⟩
abbrev cJ0_isLatin1_aae02 : ByteArray := prog_18_method_154_code
def yJ0_isLatin1_aae02 : MethodName := ⟨RJ0, "isLatin1", "()Z"⟩
abbrev cJ0_checkIndex_df160 : ByteArray := prog_18_method_155_code
def yJ0_checkIndex_df160 : MethodName := ⟨RJ0, "checkIndex", "(II)V"⟩
abbrev cJ0_checkBoundsBeginEnd_23922 : ByteArray := prog_18_method_158_code
def yJ0_checkBoundsBeginEnd_23922 : MethodName := ⟨RJ0, "checkBoundsBeginEnd", "(III)V"⟩
def RJ1 : String := "java/lang/StringLatin1"
def TJ1 : u_T := fun k => match k with
  | _ => ("", "", "", false)
def tyJ1 : Nat → FieldType := fun k => match k with
  | _ => .int
theorem nmJ1 : ∀ a, a < 0 → ∀ b, b < 0 → a ≠ b → (TJ1 a).2.1 ≠ (TJ1 b).2.1 := by decide +kernel
theorem tyJ1_ok : ∀ k, k < 0 → parseFieldDescriptor (TJ1 k).2.2.1 = some (tyJ1 k) := by decide +kernel
abbrev cJ1_charAt_3b067 : ByteArray := prog_19_method_2_code
def yJ1_charAt_3b067 : MethodName := ⟨RJ1, "charAt", "([BI)C"⟩
abbrev cJ1_canEncode_9a6ad : ByteArray := prog_19_method_4_code
def yJ1_canEncode_9a6ad : MethodName := ⟨RJ1, "canEncode", "(I)Z"⟩
abbrev cJ1_indexOf_4cfef : ByteArray := prog_19_method_22_code
def yJ1_indexOf_4cfef : MethodName := ⟨RJ1, "indexOf", "([BIII)I"⟩
abbrev cJ1_indexOfChar_4cfef : ByteArray := prog_19_method_23_code
def yJ1_indexOfChar_4cfef : MethodName := ⟨RJ1, "indexOfChar", "([BIII)I"⟩
def RJ2 : String := "java/lang/StringUTF16"
def TJ2 : u_T := fun k => match k with
  | _ => ("", "", "", false)
def tyJ2 : Nat → FieldType := fun k => match k with
  | _ => .int
theorem nmJ2 : ∀ a, a < 0 → ∀ b, b < 0 → a ≠ b → (TJ2 a).2.1 ≠ (TJ2 b).2.1 := by decide +kernel
theorem tyJ2_ok : ∀ k, k < 0 → parseFieldDescriptor (TJ2 k).2.2.1 = some (tyJ2 k) := by decide +kernel
abbrev cJ2_getChar_3b067 : ByteArray := prog_20_method_5_code
def yJ2_getChar_3b067 : MethodName := ⟨RJ2, "getChar", "([BI)C"⟩
abbrev cJ2_length_9d52b : ByteArray := prog_20_method_6_code
def yJ2_length_9d52b : MethodName := ⟨RJ2, "length", "([B)I"⟩
abbrev cJ2_indexOf_4cfef : ByteArray := prog_20_method_40_code
def yJ2_indexOf_4cfef : MethodName := ⟨RJ2, "indexOf", "([BIII)I"⟩
abbrev cJ2_indexOfChar_4cfef : ByteArray := prog_20_method_47_code
def yJ2_indexOfChar_4cfef : MethodName := ⟨RJ2, "indexOfChar", "([BIII)I"⟩
abbrev cJ2_indexOfCharUnsafe_4cfef : ByteArray := prog_20_method_48_code
def yJ2_indexOfCharUnsafe_4cfef : MethodName := ⟨RJ2, "indexOfCharUnsafe", "([BIII)I"⟩
abbrev cJ2_indexOfSupplementary_4cfef : ByteArray := prog_20_method_49_code
def yJ2_indexOfSupplementary_4cfef : MethodName := ⟨RJ2, "indexOfSupplementary", "([BIII)I"⟩
abbrev cJ2_charAt_3b067 : ByteArray := prog_20_method_83_code
def yJ2_charAt_3b067 : MethodName := ⟨RJ2, "charAt", "([BI)C"⟩
abbrev cJ2_checkIndex_2214a : ByteArray := prog_20_method_91_code
def yJ2_checkIndex_2214a : MethodName := ⟨RJ2, "checkIndex", "(I[B)V"⟩
abbrev cJ2_checkBoundsBeginEnd_d044e : ByteArray := prog_20_method_93_code
def yJ2_checkBoundsBeginEnd_d044e : MethodName := ⟨RJ2, "checkBoundsBeginEnd", "(II[B)V"⟩
def RJ10 : String := "java/lang/System"
def TJ10 : u_T := fun k => match k with
  | _ => ("", "", "", false)
def tyJ10 : Nat → FieldType := fun k => match k with
  | _ => .int
theorem nmJ10 : ∀ a, a < 0 → ∀ b, b < 0 → a ≠ b → (TJ10 a).2.1 ≠ (TJ10 b).2.1 := by decide +kernel
theorem tyJ10_ok : ∀ k, k < 0 → parseFieldDescriptor (TJ10 k).2.2.1 = some (tyJ10 k) := by decide +kernel
def RJ7 : String := "java/util/Arrays"
def TJ7 : u_T := fun k => match k with
  | _ => ("", "", "", false)
def tyJ7 : Nat → FieldType := fun k => match k with
  | _ => .int
theorem nmJ7 : ∀ a, a < 0 → ∀ b, b < 0 → a ≠ b → (TJ7 a).2.1 ≠ (TJ7 b).2.1 := by decide +kernel
theorem tyJ7_ok : ∀ k, k < 0 → parseFieldDescriptor (TJ7 k).2.2.1 = some (tyJ7 k) := by decide +kernel
abbrev cJ7_fill_53178 : ByteArray := prog_22_method_103_code
def yJ7_fill_53178 : MethodName := ⟨RJ7, "fill", "([II)V"⟩
abbrev cJ7_copyOf_9075b : ByteArray := prog_22_method_121_code
def yJ7_copyOf_9075b : MethodName := ⟨RJ7, "copyOf", "([BI)[B"⟩
abbrev cJ7_copyOf_59c91 : ByteArray := prog_22_method_123_code
def yJ7_copyOf_59c91 : MethodName := ⟨RJ7, "copyOf", "([II)[I"⟩
def RJ3 : String := "jdk/internal/util/Preconditions"
def TJ3 : u_T := fun k => match k with
  | _ => ("", "", "", false)
def tyJ3 : Nat → FieldType := fun k => match k with
  | _ => .int
theorem nmJ3 : ∀ a, a < 0 → ∀ b, b < 0 → a ≠ b → (TJ3 a).2.1 ≠ (TJ3 b).2.1 := by decide +kernel
theorem tyJ3_ok : ∀ k, k < 0 → parseFieldDescriptor (TJ3 k).2.2.1 = some (tyJ3 k) := by decide +kernel
abbrev cJ3_checkIndex_8e157 : ByteArray := prog_23_method_11_code
def yJ3_checkIndex_8e157 : MethodName := ⟨RJ3, "checkIndex", "(IILjava/util/function/BiFunction;)I"⟩
abbrev cJ3_checkFromToIndex_8c36e : ByteArray := prog_23_method_12_code
def yJ3_checkFromToIndex_8c36e : MethodName := ⟨RJ3, "checkFromToIndex", "(IIILjava/util/function/BiFunction;)I"⟩
def RL : String := "OrchestraYearLaw"
abbrev cL_law : ByteArray := code
def yL_law : MethodName := ⟨RL, "law", "([I)Z"⟩
