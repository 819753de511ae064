section
-- ===== PART A: goes FIRST, ahead of the names: the tables' words, and 'selects' of the private methods out of them =====
/-- a private method of a class that the tables say can be made, by its rows of tables_1 -/
def lw_okq (q : MethodName × Nat) : Prop := (q.1.cls ≠ "java/lang/invoke/MethodHandle" ∧ q.1.cls ≠ "java/lang/invoke/VarHandle") ∧ Cond.instantiable q.1.cls q.2 ∈ tables_1 ∧ Cond.privateMethod q.1 ∈ tables_1 ∧ Cond.instanceMethod q.1 ∈ tables_1
theorem lw_p0 : lw_okq (⟨"TurnQueues$Reader", "step", "(LTurnQueues$Bytes;)V"⟩, 8) := ⟨⟨by decide +kernel, by decide +kernel⟩, List.mem_of_getElem? (i := 49) (by decide +kernel), List.mem_of_getElem? (i := 501) (by decide +kernel), List.mem_of_getElem? (i := 502) (by decide +kernel)⟩
theorem lw_p1 : lw_okq (⟨"TurnQueues$Reader", "readWord", "(LTurnQueues$Bytes;)V"⟩, 8) := ⟨⟨by decide +kernel, by decide +kernel⟩, List.mem_of_getElem? (i := 49) (by decide +kernel), List.mem_of_getElem? (i := 515) (by decide +kernel), List.mem_of_getElem? (i := 516) (by decide +kernel)⟩
theorem lw_p2 : lw_okq (⟨"TurnQueues$Reader", "readNumber", "(LTurnQueues$Bytes;)V"⟩, 8) := ⟨⟨by decide +kernel, by decide +kernel⟩, List.mem_of_getElem? (i := 49) (by decide +kernel), List.mem_of_getElem? (i := 522) (by decide +kernel), List.mem_of_getElem? (i := 523) (by decide +kernel)⟩
theorem lw_p3 : lw_okq (⟨"TurnQueues$Reader", "readHouseLine", "(LTurnQueues$Bytes;)V"⟩, 8) := ⟨⟨by decide +kernel, by decide +kernel⟩, List.mem_of_getElem? (i := 49) (by decide +kernel), List.mem_of_getElem? (i := 529) (by decide +kernel), List.mem_of_getElem? (i := 530) (by decide +kernel)⟩
theorem lw_p4 : lw_okq (⟨"TurnQueues$Reader", "expectWord", "(LTurnQueues$Bytes;Ljava/lang/String;)V"⟩, 8) := ⟨⟨by decide +kernel, by decide +kernel⟩, List.mem_of_getElem? (i := 49) (by decide +kernel), List.mem_of_getElem? (i := 534) (by decide +kernel), List.mem_of_getElem? (i := 535) (by decide +kernel)⟩
theorem lw_p5 : lw_okq (⟨"TurnQueues$Reader", "isWord", "(LTurnQueues$Bytes;Ljava/lang/String;)Z"⟩, 8) := ⟨⟨by decide +kernel, by decide +kernel⟩, List.mem_of_getElem? (i := 49) (by decide +kernel), List.mem_of_getElem? (i := 538) (by decide +kernel), List.mem_of_getElem? (i := 539) (by decide +kernel)⟩
theorem lw_p6 : lw_okq (⟨"TurnQueues$Reader", "refuse", "(I)V"⟩, 8) := ⟨⟨by decide +kernel, by decide +kernel⟩, List.mem_of_getElem? (i := 49) (by decide +kernel), List.mem_of_getElem? (i := 590) (by decide +kernel), List.mem_of_getElem? (i := 591) (by decide +kernel)⟩
theorem lw_p7 : lw_okq (⟨"TurnQueues$Reader", "expectNumber", "(LTurnQueues$Bytes;II)I"⟩, 8) := ⟨⟨by decide +kernel, by decide +kernel⟩, List.mem_of_getElem? (i := 49) (by decide +kernel), List.mem_of_getElem? (i := 595) (by decide +kernel), List.mem_of_getElem? (i := 596) (by decide +kernel)⟩
theorem lw_p8 : lw_okq (⟨"TurnQueues$Reader", "expectSign", "(LTurnQueues$Bytes;)V"⟩, 8) := ⟨⟨by decide +kernel, by decide +kernel⟩, List.mem_of_getElem? (i := 49) (by decide +kernel), List.mem_of_getElem? (i := 600) (by decide +kernel), List.mem_of_getElem? (i := 601) (by decide +kernel)⟩
theorem lw_p9 : lw_okq (⟨"TurnQueues$Reader", "readDeedLine", "(LTurnQueues$Bytes;)V"⟩, 8) := ⟨⟨by decide +kernel, by decide +kernel⟩, List.mem_of_getElem? (i := 49) (by decide +kernel), List.mem_of_getElem? (i := 604) (by decide +kernel), List.mem_of_getElem? (i := 605) (by decide +kernel)⟩
theorem lw_p10 : lw_okq (⟨"TurnQueues$Reader", "kindOfWord", "(LTurnQueues$Bytes;)I"⟩, 8) := ⟨⟨by decide +kernel, by decide +kernel⟩, List.mem_of_getElem? (i := 49) (by decide +kernel), List.mem_of_getElem? (i := 608) (by decide +kernel), List.mem_of_getElem? (i := 609) (by decide +kernel)⟩
theorem lw_p11 : lw_okq (⟨"TurnQueues$Reader", "expectVersion", "(LTurnQueues$Bytes;Z)I"⟩, 8) := ⟨⟨by decide +kernel, by decide +kernel⟩, List.mem_of_getElem? (i := 49) (by decide +kernel), List.mem_of_getElem? (i := 619) (by decide +kernel), List.mem_of_getElem? (i := 620) (by decide +kernel)⟩
theorem lw_p12 : lw_okq (⟨"TurnQueues$History", "enact", "(I)V"⟩, 11) := ⟨⟨by decide +kernel, by decide +kernel⟩, List.mem_of_getElem? (i := 141) (by decide +kernel), List.mem_of_getElem? (i := 643) (by decide +kernel), List.mem_of_getElem? (i := 644) (by decide +kernel)⟩
theorem lw_p13 : lw_okq (⟨"TurnQueues$Numbers", "insert", "(II)V"⟩, 2) := ⟨⟨by decide +kernel, by decide +kernel⟩, List.mem_of_getElem? (i := 316) (by decide +kernel), List.mem_of_getElem? (i := 676) (by decide +kernel), List.mem_of_getElem? (i := 677) (by decide +kernel)⟩
theorem lw_p14 : lw_okq (⟨"TurnQueues$Numbers", "remove", "(I)I"⟩, 2) := ⟨⟨by decide +kernel, by decide +kernel⟩, List.mem_of_getElem? (i := 316) (by decide +kernel), List.mem_of_getElem? (i := 680) (by decide +kernel), List.mem_of_getElem? (i := 681) (by decide +kernel)⟩
theorem lw_p15 : lw_okq (⟨"TurnQueues$Mill", "change", "(LTurnQueues$State;II)V"⟩, 8) := ⟨⟨by decide +kernel, by decide +kernel⟩, List.mem_of_getElem? (i := 149) (by decide +kernel), List.mem_of_getElem? (i := 696) (by decide +kernel), List.mem_of_getElem? (i := 697) (by decide +kernel)⟩
def lw_privs_1 : List (MethodName × Nat) := [(⟨"TurnQueues$Reader", "step", "(LTurnQueues$Bytes;)V"⟩, 8), (⟨"TurnQueues$Reader", "readWord", "(LTurnQueues$Bytes;)V"⟩, 8), (⟨"TurnQueues$Reader", "readNumber", "(LTurnQueues$Bytes;)V"⟩, 8), (⟨"TurnQueues$Reader", "readHouseLine", "(LTurnQueues$Bytes;)V"⟩, 8), (⟨"TurnQueues$Reader", "expectWord", "(LTurnQueues$Bytes;Ljava/lang/String;)V"⟩, 8), (⟨"TurnQueues$Reader", "isWord", "(LTurnQueues$Bytes;Ljava/lang/String;)Z"⟩, 8), (⟨"TurnQueues$Reader", "refuse", "(I)V"⟩, 8), (⟨"TurnQueues$Reader", "expectNumber", "(LTurnQueues$Bytes;II)I"⟩, 8), (⟨"TurnQueues$Reader", "expectSign", "(LTurnQueues$Bytes;)V"⟩, 8), (⟨"TurnQueues$Reader", "readDeedLine", "(LTurnQueues$Bytes;)V"⟩, 8), (⟨"TurnQueues$Reader", "kindOfWord", "(LTurnQueues$Bytes;)I"⟩, 8), (⟨"TurnQueues$Reader", "expectVersion", "(LTurnQueues$Bytes;Z)I"⟩, 8), (⟨"TurnQueues$History", "enact", "(I)V"⟩, 11), (⟨"TurnQueues$Numbers", "insert", "(II)V"⟩, 2), (⟨"TurnQueues$Numbers", "remove", "(I)I"⟩, 2), (⟨"TurnQueues$Mill", "change", "(LTurnQueues$State;II)V"⟩, 8)]
theorem lw_r1 : ∀ q ∈ lw_privs_1, lw_okq q := List.forall_mem_cons.mpr ⟨lw_p0, List.forall_mem_cons.mpr ⟨lw_p1, List.forall_mem_cons.mpr ⟨lw_p2, List.forall_mem_cons.mpr ⟨lw_p3, List.forall_mem_cons.mpr ⟨lw_p4, List.forall_mem_cons.mpr ⟨lw_p5, List.forall_mem_cons.mpr ⟨lw_p6, List.forall_mem_cons.mpr ⟨lw_p7, List.forall_mem_cons.mpr ⟨lw_p8, List.forall_mem_cons.mpr ⟨lw_p9, List.forall_mem_cons.mpr ⟨lw_p10, List.forall_mem_cons.mpr ⟨lw_p11, List.forall_mem_cons.mpr ⟨lw_p12, List.forall_mem_cons.mpr ⟨lw_p13, List.forall_mem_cons.mpr ⟨lw_p14, List.forall_mem_cons.mpr ⟨lw_p15, fun _ h => absurd h List.not_mem_nil⟩⟩⟩⟩⟩⟩⟩⟩⟩⟩⟩⟩⟩⟩⟩⟩
theorem lw_p16 : lw_okq (⟨"TurnQueues$Mill", "disown", "(LTurnQueues$State;)V"⟩, 8) := ⟨⟨by decide +kernel, by decide +kernel⟩, List.mem_of_getElem? (i := 149) (by decide +kernel), List.mem_of_getElem? (i := 705) (by decide +kernel), List.mem_of_getElem? (i := 706) (by decide +kernel)⟩
theorem lw_p17 : lw_okq (⟨"TurnQueues$Mill", "turnAtOnce", "(LTurnQueues$State;)V"⟩, 8) := ⟨⟨by decide +kernel, by decide +kernel⟩, List.mem_of_getElem? (i := 149) (by decide +kernel), List.mem_of_getElem? (i := 713) (by decide +kernel), List.mem_of_getElem? (i := 714) (by decide +kernel)⟩
theorem lw_p18 : lw_okq (⟨"TurnQueues$Mill", "move", "(LTurnQueues$Row;LTurnQueues$Row;)V"⟩, 8) := ⟨⟨by decide +kernel, by decide +kernel⟩, List.mem_of_getElem? (i := 149) (by decide +kernel), List.mem_of_getElem? (i := 717) (by decide +kernel), List.mem_of_getElem? (i := 718) (by decide +kernel)⟩
theorem lw_p19 : lw_okq (⟨"TurnQueues$Mill", "turnBySteps", "(LTurnQueues$State;)V"⟩, 8) := ⟨⟨by decide +kernel, by decide +kernel⟩, List.mem_of_getElem? (i := 149) (by decide +kernel), List.mem_of_getElem? (i := 725) (by decide +kernel), List.mem_of_getElem? (i := 726) (by decide +kernel)⟩
theorem lw_p20 : lw_okq (⟨"TurnQueues$Mill", "beginTurning", "(LTurnQueues$State;)V"⟩, 8) := ⟨⟨by decide +kernel, by decide +kernel⟩, List.mem_of_getElem? (i := 149) (by decide +kernel), List.mem_of_getElem? (i := 729) (by decide +kernel), List.mem_of_getElem? (i := 730) (by decide +kernel)⟩
theorem lw_p21 : lw_okq (⟨"TurnQueues$Mill", "turnOnce", "(LTurnQueues$State;)V"⟩, 8) := ⟨⟨by decide +kernel, by decide +kernel⟩, List.mem_of_getElem? (i := 149) (by decide +kernel), List.mem_of_getElem? (i := 743) (by decide +kernel), List.mem_of_getElem? (i := 744) (by decide +kernel)⟩
theorem lw_p22 : lw_okq (⟨"TurnQueues$Mill", "even", "(LTurnQueues$State;I)V"⟩, 8) := ⟨⟨by decide +kernel, by decide +kernel⟩, List.mem_of_getElem? (i := 149) (by decide +kernel), List.mem_of_getElem? (i := 747) (by decide +kernel), List.mem_of_getElem? (i := 748) (by decide +kernel)⟩
theorem lw_p23 : lw_okq (⟨"TurnQueues$Mill", "split", "(LTurnQueues$State;LTurnQueues$Row;LTurnQueues$Row;)V"⟩, 8) := ⟨⟨by decide +kernel, by decide +kernel⟩, List.mem_of_getElem? (i := 149) (by decide +kernel), List.mem_of_getElem? (i := 752) (by decide +kernel), List.mem_of_getElem? (i := 753) (by decide +kernel)⟩
theorem lw_p24 : lw_okq (⟨"TurnQueues$Mill", "lay", "(LTurnQueues$Row;II)V"⟩, 8) := ⟨⟨by decide +kernel, by decide +kernel⟩, List.mem_of_getElem? (i := 149) (by decide +kernel), List.mem_of_getElem? (i := 756) (by decide +kernel), List.mem_of_getElem? (i := 757) (by decide +kernel)⟩
theorem lw_p25 : lw_okq (⟨"TurnQueues$Mill", "laidAt", "(I)I"⟩, 8) := ⟨⟨by decide +kernel, by decide +kernel⟩, List.mem_of_getElem? (i := 149) (by decide +kernel), List.mem_of_getElem? (i := 764) (by decide +kernel), List.mem_of_getElem? (i := 765) (by decide +kernel)⟩
theorem lw_p26 : lw_okq (⟨"TurnQueues$History", "writeRow", "(LTurnQueues$Bytes;Ljava/lang/String;LTurnQueues$Row;)V"⟩, 11) := ⟨⟨by decide +kernel, by decide +kernel⟩, List.mem_of_getElem? (i := 141) (by decide +kernel), List.mem_of_getElem? (i := 890) (by decide +kernel), List.mem_of_getElem? (i := 891) (by decide +kernel)⟩
theorem lw_p27 : lw_okq (⟨"TurnQueues$History", "writeTurn", "(LTurnQueues$Bytes;LTurnQueues$State;)V"⟩, 11) := ⟨⟨by decide +kernel, by decide +kernel⟩, List.mem_of_getElem? (i := 141) (by decide +kernel), List.mem_of_getElem? (i := 908) (by decide +kernel), List.mem_of_getElem? (i := 909) (by decide +kernel)⟩
theorem lw_p28 : lw_okq (⟨"TurnQueues$History", "writeCount", "(LTurnQueues$Bytes;Ljava/lang/String;I)V"⟩, 11) := ⟨⟨by decide +kernel, by decide +kernel⟩, List.mem_of_getElem? (i := 141) (by decide +kernel), List.mem_of_getElem? (i := 913) (by decide +kernel), List.mem_of_getElem? (i := 914) (by decide +kernel)⟩
theorem lw_p29 : lw_okq (⟨"TurnQueues$Cells", "markRow", "(LTurnQueues$Row;I)I"⟩, 6) := ⟨⟨by decide +kernel, by decide +kernel⟩, List.mem_of_getElem? (i := 155) (by decide +kernel), List.mem_of_getElem? (i := 982) (by decide +kernel), List.mem_of_getElem? (i := 983) (by decide +kernel)⟩
theorem lw_p30 : lw_okq (⟨"TurnQueues$Trial", "begin", "(LTurnQueues$Deeds;LTurnQueues$State;)V"⟩, 7) := ⟨⟨by decide +kernel, by decide +kernel⟩, List.mem_of_getElem? (i := 369) (by decide +kernel), List.mem_of_getElem? (i := 1091) (by decide +kernel), List.mem_of_getElem? (i := 1092) (by decide +kernel)⟩
theorem lw_p31 : lw_okq (⟨"TurnQueues$Scout", "noteRow", "(I)V"⟩, 9) := ⟨⟨by decide +kernel, by decide +kernel⟩, List.mem_of_getElem? (i := 407) (by decide +kernel), List.mem_of_getElem? (i := 1121) (by decide +kernel), List.mem_of_getElem? (i := 1122) (by decide +kernel)⟩
def lw_privs_2 : List (MethodName × Nat) := [(⟨"TurnQueues$Mill", "disown", "(LTurnQueues$State;)V"⟩, 8), (⟨"TurnQueues$Mill", "turnAtOnce", "(LTurnQueues$State;)V"⟩, 8), (⟨"TurnQueues$Mill", "move", "(LTurnQueues$Row;LTurnQueues$Row;)V"⟩, 8), (⟨"TurnQueues$Mill", "turnBySteps", "(LTurnQueues$State;)V"⟩, 8), (⟨"TurnQueues$Mill", "beginTurning", "(LTurnQueues$State;)V"⟩, 8), (⟨"TurnQueues$Mill", "turnOnce", "(LTurnQueues$State;)V"⟩, 8), (⟨"TurnQueues$Mill", "even", "(LTurnQueues$State;I)V"⟩, 8), (⟨"TurnQueues$Mill", "split", "(LTurnQueues$State;LTurnQueues$Row;LTurnQueues$Row;)V"⟩, 8), (⟨"TurnQueues$Mill", "lay", "(LTurnQueues$Row;II)V"⟩, 8), (⟨"TurnQueues$Mill", "laidAt", "(I)I"⟩, 8), (⟨"TurnQueues$History", "writeRow", "(LTurnQueues$Bytes;Ljava/lang/String;LTurnQueues$Row;)V"⟩, 11), (⟨"TurnQueues$History", "writeTurn", "(LTurnQueues$Bytes;LTurnQueues$State;)V"⟩, 11), (⟨"TurnQueues$History", "writeCount", "(LTurnQueues$Bytes;Ljava/lang/String;I)V"⟩, 11), (⟨"TurnQueues$Cells", "markRow", "(LTurnQueues$Row;I)I"⟩, 6), (⟨"TurnQueues$Trial", "begin", "(LTurnQueues$Deeds;LTurnQueues$State;)V"⟩, 7), (⟨"TurnQueues$Scout", "noteRow", "(I)V"⟩, 9)]
theorem lw_r2 : ∀ q ∈ lw_privs_2, lw_okq q := List.forall_mem_cons.mpr ⟨lw_p16, List.forall_mem_cons.mpr ⟨lw_p17, List.forall_mem_cons.mpr ⟨lw_p18, List.forall_mem_cons.mpr ⟨lw_p19, List.forall_mem_cons.mpr ⟨lw_p20, List.forall_mem_cons.mpr ⟨lw_p21, List.forall_mem_cons.mpr ⟨lw_p22, List.forall_mem_cons.mpr ⟨lw_p23, List.forall_mem_cons.mpr ⟨lw_p24, List.forall_mem_cons.mpr ⟨lw_p25, List.forall_mem_cons.mpr ⟨lw_p26, List.forall_mem_cons.mpr ⟨lw_p27, List.forall_mem_cons.mpr ⟨lw_p28, List.forall_mem_cons.mpr ⟨lw_p29, List.forall_mem_cons.mpr ⟨lw_p30, List.forall_mem_cons.mpr ⟨lw_p31, fun _ h => absurd h List.not_mem_nil⟩⟩⟩⟩⟩⟩⟩⟩⟩⟩⟩⟩⟩⟩⟩⟩
theorem lw_p32 : lw_okq (⟨"TurnQueues$Scout", "noteDeed", "(III)V"⟩, 9) := ⟨⟨by decide +kernel, by decide +kernel⟩, List.mem_of_getElem? (i := 407) (by decide +kernel), List.mem_of_getElem? (i := 1126) (by decide +kernel), List.mem_of_getElem? (i := 1127) (by decide +kernel)⟩
theorem lw_p33 : lw_okq (⟨"TurnQueues$Trial", "graftDeed", "(LTurnQueues$Deeds;I)V"⟩, 7) := ⟨⟨by decide +kernel, by decide +kernel⟩, List.mem_of_getElem? (i := 369) (by decide +kernel), List.mem_of_getElem? (i := 1195) (by decide +kernel), List.mem_of_getElem? (i := 1196) (by decide +kernel)⟩
theorem lw_p34 : lw_okq (⟨"TurnQueuesModel", "advance", "()V"⟩, 58) := ⟨⟨by decide +kernel, by decide +kernel⟩, List.mem_of_getElem? (i := 1259) (by decide +kernel), List.mem_of_getElem? (i := 1458) (by decide +kernel), List.mem_of_getElem? (i := 1459) (by decide +kernel)⟩
theorem lw_p35 : lw_okq (⟨"TurnQueuesModel", "see", "(I)I"⟩, 58) := ⟨⟨by decide +kernel, by decide +kernel⟩, List.mem_of_getElem? (i := 1259) (by decide +kernel), List.mem_of_getElem? (i := 1462) (by decide +kernel), List.mem_of_getElem? (i := 1463) (by decide +kernel)⟩
theorem lw_p36 : lw_okq (⟨"TurnQueuesModel", "good", "()Z"⟩, 58) := ⟨⟨by decide +kernel, by decide +kernel⟩, List.mem_of_getElem? (i := 1259) (by decide +kernel), List.mem_of_getElem? (i := 1472) (by decide +kernel), List.mem_of_getElem? (i := 1473) (by decide +kernel)⟩
theorem lw_p37 : lw_okq (⟨"TurnQueuesModel", "is", "(Ljava/lang/String;)Z"⟩, 58) := ⟨⟨by decide +kernel, by decide +kernel⟩, List.mem_of_getElem? (i := 1259) (by decide +kernel), List.mem_of_getElem? (i := 1477) (by decide +kernel), List.mem_of_getElem? (i := 1478) (by decide +kernel)⟩
theorem lw_p38 : lw_okq (⟨"TurnQueuesModel", "errs", "(I)V"⟩, 58) := ⟨⟨by decide +kernel, by decide +kernel⟩, List.mem_of_getElem? (i := 1259) (by decide +kernel), List.mem_of_getElem? (i := 1483) (by decide +kernel), List.mem_of_getElem? (i := 1484) (by decide +kernel)⟩
theorem lw_p39 : lw_okq (⟨"TurnQueuesModel", "told", "(Ljava/lang/String;II)I"⟩, 58) := ⟨⟨by decide +kernel, by decide +kernel⟩, List.mem_of_getElem? (i := 1259) (by decide +kernel), List.mem_of_getElem? (i := 1488) (by decide +kernel), List.mem_of_getElem? (i := 1489) (by decide +kernel)⟩
theorem lw_p40 : lw_okq (⟨"TurnQueuesModel", "takes", "(II)I"⟩, 58) := ⟨⟨by decide +kernel, by decide +kernel⟩, List.mem_of_getElem? (i := 1259) (by decide +kernel), List.mem_of_getElem? (i := 1492) (by decide +kernel), List.mem_of_getElem? (i := 1493) (by decide +kernel)⟩
theorem lw_p41 : lw_okq (⟨"TurnQueuesModel", "readDeed", "()V"⟩, 58) := ⟨⟨by decide +kernel, by decide +kernel⟩, List.mem_of_getElem? (i := 1259) (by decide +kernel), List.mem_of_getElem? (i := 1497) (by decide +kernel), List.mem_of_getElem? (i := 1498) (by decide +kernel)⟩
theorem lw_p42 : lw_okq (⟨"TurnQueuesModel", "kindHere", "()I"⟩, 58) := ⟨⟨by decide +kernel, by decide +kernel⟩, List.mem_of_getElem? (i := 1259) (by decide +kernel), List.mem_of_getElem? (i := 1501) (by decide +kernel), List.mem_of_getElem? (i := 1502) (by decide +kernel)⟩
theorem lw_p43 : lw_okq (⟨"TurnQueuesModel", "beginsHouse", "()V"⟩, 58) := ⟨⟨by decide +kernel, by decide +kernel⟩, List.mem_of_getElem? (i := 1259) (by decide +kernel), List.mem_of_getElem? (i := 1509) (by decide +kernel), List.mem_of_getElem? (i := 1510) (by decide +kernel)⟩
theorem lw_p44 : lw_okq (⟨"TurnQueuesModel", "empties", "(I)V"⟩, 58) := ⟨⟨by decide +kernel, by decide +kernel⟩, List.mem_of_getElem? (i := 1259) (by decide +kernel), List.mem_of_getElem? (i := 1513) (by decide +kernel), List.mem_of_getElem? (i := 1514) (by decide +kernel)⟩
theorem lw_p45 : lw_okq (⟨"TurnQueuesModel", "sets", "(III)V"⟩, 58) := ⟨⟨by decide +kernel, by decide +kernel⟩, List.mem_of_getElem? (i := 1259) (by decide +kernel), List.mem_of_getElem? (i := 1517) (by decide +kernel), List.mem_of_getElem? (i := 1518) (by decide +kernel)⟩
theorem lw_p46 : lw_okq (⟨"TurnQueuesModel", "makes", "(III)I"⟩, 58) := ⟨⟨by decide +kernel, by decide +kernel⟩, List.mem_of_getElem? (i := 1259) (by decide +kernel), List.mem_of_getElem? (i := 1521) (by decide +kernel), List.mem_of_getElem? (i := 1522) (by decide +kernel)⟩
theorem lw_p47 : lw_okq (⟨"TurnQueuesModel", "asked", "(II)I"⟩, 58) := ⟨⟨by decide +kernel, by decide +kernel⟩, List.mem_of_getElem? (i := 1259) (by decide +kernel), List.mem_of_getElem? (i := 1525) (by decide +kernel), List.mem_of_getElem? (i := 1526) (by decide +kernel)⟩
def lw_privs_3 : List (MethodName × Nat) := [(⟨"TurnQueues$Scout", "noteDeed", "(III)V"⟩, 9), (⟨"TurnQueues$Trial", "graftDeed", "(LTurnQueues$Deeds;I)V"⟩, 7), (⟨"TurnQueuesModel", "advance", "()V"⟩, 58), (⟨"TurnQueuesModel", "see", "(I)I"⟩, 58), (⟨"TurnQueuesModel", "good", "()Z"⟩, 58), (⟨"TurnQueuesModel", "is", "(Ljava/lang/String;)Z"⟩, 58), (⟨"TurnQueuesModel", "errs", "(I)V"⟩, 58), (⟨"TurnQueuesModel", "told", "(Ljava/lang/String;II)I"⟩, 58), (⟨"TurnQueuesModel", "takes", "(II)I"⟩, 58), (⟨"TurnQueuesModel", "readDeed", "()V"⟩, 58), (⟨"TurnQueuesModel", "kindHere", "()I"⟩, 58), (⟨"TurnQueuesModel", "beginsHouse", "()V"⟩, 58), (⟨"TurnQueuesModel", "empties", "(I)V"⟩, 58), (⟨"TurnQueuesModel", "sets", "(III)V"⟩, 58), (⟨"TurnQueuesModel", "makes", "(III)I"⟩, 58), (⟨"TurnQueuesModel", "asked", "(II)I"⟩, 58)]
theorem lw_r3 : ∀ q ∈ lw_privs_3, lw_okq q := List.forall_mem_cons.mpr ⟨lw_p32, List.forall_mem_cons.mpr ⟨lw_p33, List.forall_mem_cons.mpr ⟨lw_p34, List.forall_mem_cons.mpr ⟨lw_p35, List.forall_mem_cons.mpr ⟨lw_p36, List.forall_mem_cons.mpr ⟨lw_p37, List.forall_mem_cons.mpr ⟨lw_p38, List.forall_mem_cons.mpr ⟨lw_p39, List.forall_mem_cons.mpr ⟨lw_p40, List.forall_mem_cons.mpr ⟨lw_p41, List.forall_mem_cons.mpr ⟨lw_p42, List.forall_mem_cons.mpr ⟨lw_p43, List.forall_mem_cons.mpr ⟨lw_p44, List.forall_mem_cons.mpr ⟨lw_p45, List.forall_mem_cons.mpr ⟨lw_p46, List.forall_mem_cons.mpr ⟨lw_p47, fun _ h => absurd h List.not_mem_nil⟩⟩⟩⟩⟩⟩⟩⟩⟩⟩⟩⟩⟩⟩⟩⟩
theorem lw_p48 : lw_okq (⟨"TurnQueuesModel", "laysQueue", "(IIII)V"⟩, 58) := ⟨⟨by decide +kernel, by decide +kernel⟩, List.mem_of_getElem? (i := 1259) (by decide +kernel), List.mem_of_getElem? (i := 1529) (by decide +kernel), List.mem_of_getElem? (i := 1530) (by decide +kernel)⟩
theorem lw_p49 : lw_okq (⟨"TurnQueuesModel", "deeds", "(IIII)I"⟩, 58) := ⟨⟨by decide +kernel, by decide +kernel⟩, List.mem_of_getElem? (i := 1259) (by decide +kernel), List.mem_of_getElem? (i := 1533) (by decide +kernel), List.mem_of_getElem? (i := 1534) (by decide +kernel)⟩
theorem lw_p50 : lw_okq (⟨"TurnQueuesModel", "copies", "(II)V"⟩, 58) := ⟨⟨by decide +kernel, by decide +kernel⟩, List.mem_of_getElem? (i := 1259) (by decide +kernel), List.mem_of_getElem? (i := 1537) (by decide +kernel), List.mem_of_getElem? (i := 1538) (by decide +kernel)⟩
theorem lw_p51 : lw_okq (⟨"TurnQueuesModel", "of", "(II)I"⟩, 58) := ⟨⟨by decide +kernel, by decide +kernel⟩, List.mem_of_getElem? (i := 1259) (by decide +kernel), List.mem_of_getElem? (i := 1541) (by decide +kernel), List.mem_of_getElem? (i := 1542) (by decide +kernel)⟩
theorem lw_p52 : lw_okq (⟨"TurnQueuesModel", "pushes", "(III)V"⟩, 58) := ⟨⟨by decide +kernel, by decide +kernel⟩, List.mem_of_getElem? (i := 1259) (by decide +kernel), List.mem_of_getElem? (i := 1545) (by decide +kernel), List.mem_of_getElem? (i := 1546) (by decide +kernel)⟩
theorem lw_p53 : lw_okq (⟨"TurnQueuesModel", "ahead", "(II)I"⟩, 58) := ⟨⟨by decide +kernel, by decide +kernel⟩, List.mem_of_getElem? (i := 1259) (by decide +kernel), List.mem_of_getElem? (i := 1549) (by decide +kernel), List.mem_of_getElem? (i := 1550) (by decide +kernel)⟩
theorem lw_p54 : lw_okq (⟨"TurnQueuesModel", "pops", "(II)I"⟩, 58) := ⟨⟨by decide +kernel, by decide +kernel⟩, List.mem_of_getElem? (i := 1259) (by decide +kernel), List.mem_of_getElem? (i := 1553) (by decide +kernel), List.mem_of_getElem? (i := 1554) (by decide +kernel)⟩
theorem lw_p55 : lw_okq (⟨"TurnQueuesModel", "turnsAll", "(I)V"⟩, 58) := ⟨⟨by decide +kernel, by decide +kernel⟩, List.mem_of_getElem? (i := 1259) (by decide +kernel), List.mem_of_getElem? (i := 1557) (by decide +kernel), List.mem_of_getElem? (i := 1558) (by decide +kernel)⟩
theorem lw_p56 : lw_okq (⟨"TurnQueuesModel", "goesOn", "(IZ)V"⟩, 58) := ⟨⟨by decide +kernel, by decide +kernel⟩, List.mem_of_getElem? (i := 1259) (by decide +kernel), List.mem_of_getElem? (i := 1561) (by decide +kernel), List.mem_of_getElem? (i := 1562) (by decide +kernel)⟩
theorem lw_p57 : lw_okq (⟨"TurnQueuesModel", "takenBy", "(I)V"⟩, 58) := ⟨⟨by decide +kernel, by decide +kernel⟩, List.mem_of_getElem? (i := 1259) (by decide +kernel), List.mem_of_getElem? (i := 1565) (by decide +kernel), List.mem_of_getElem? (i := 1566) (by decide +kernel)⟩
theorem lw_p58 : lw_okq (⟨"TurnQueuesModel", "becomesReady", "(I)V"⟩, 58) := ⟨⟨by decide +kernel, by decide +kernel⟩, List.mem_of_getElem? (i := 1259) (by decide +kernel), List.mem_of_getElem? (i := 1569) (by decide +kernel), List.mem_of_getElem? (i := 1570) (by decide +kernel)⟩
theorem lw_p59 : lw_okq (⟨"TurnQueuesModel", "lengthOf", "(I)I"⟩, 58) := ⟨⟨by decide +kernel, by decide +kernel⟩, List.mem_of_getElem? (i := 1259) (by decide +kernel), List.mem_of_getElem? (i := 1573) (by decide +kernel), List.mem_of_getElem? (i := 1574) (by decide +kernel)⟩
theorem lw_p60 : lw_okq (⟨"TurnQueuesModel", "begins", "(II)V"⟩, 58) := ⟨⟨by decide +kernel, by decide +kernel⟩, List.mem_of_getElem? (i := 1259) (by decide +kernel), List.mem_of_getElem? (i := 1577) (by decide +kernel), List.mem_of_getElem? (i := 1578) (by decide +kernel)⟩
theorem lw_p61 : lw_okq (⟨"TurnQueuesModel", "turns", "(I)V"⟩, 58) := ⟨⟨by decide +kernel, by decide +kernel⟩, List.mem_of_getElem? (i := 1259) (by decide +kernel), List.mem_of_getElem? (i := 1581) (by decide +kernel), List.mem_of_getElem? (i := 1582) (by decide +kernel)⟩
theorem lw_p62 : lw_okq (⟨"TurnQueuesModel", "evens", "(II)V"⟩, 58) := ⟨⟨by decide +kernel, by decide +kernel⟩, List.mem_of_getElem? (i := 1259) (by decide +kernel), List.mem_of_getElem? (i := 1585) (by decide +kernel), List.mem_of_getElem? (i := 1586) (by decide +kernel)⟩
theorem lw_p63 : lw_okq (⟨"TurnQueuesModel", "evensBy", "(III)V"⟩, 58) := ⟨⟨by decide +kernel, by decide +kernel⟩, List.mem_of_getElem? (i := 1259) (by decide +kernel), List.mem_of_getElem? (i := 1589) (by decide +kernel), List.mem_of_getElem? (i := 1590) (by decide +kernel)⟩
def lw_privs_4 : List (MethodName × Nat) := [(⟨"TurnQueuesModel", "laysQueue", "(IIII)V"⟩, 58), (⟨"TurnQueuesModel", "deeds", "(IIII)I"⟩, 58), (⟨"TurnQueuesModel", "copies", "(II)V"⟩, 58), (⟨"TurnQueuesModel", "of", "(II)I"⟩, 58), (⟨"TurnQueuesModel", "pushes", "(III)V"⟩, 58), (⟨"TurnQueuesModel", "ahead", "(II)I"⟩, 58), (⟨"TurnQueuesModel", "pops", "(II)I"⟩, 58), (⟨"TurnQueuesModel", "turnsAll", "(I)V"⟩, 58), (⟨"TurnQueuesModel", "goesOn", "(IZ)V"⟩, 58), (⟨"TurnQueuesModel", "takenBy", "(I)V"⟩, 58), (⟨"TurnQueuesModel", "becomesReady", "(I)V"⟩, 58), (⟨"TurnQueuesModel", "lengthOf", "(I)I"⟩, 58), (⟨"TurnQueuesModel", "begins", "(II)V"⟩, 58), (⟨"TurnQueuesModel", "turns", "(I)V"⟩, 58), (⟨"TurnQueuesModel", "evens", "(II)V"⟩, 58), (⟨"TurnQueuesModel", "evensBy", "(III)V"⟩, 58)]
theorem lw_r4 : ∀ q ∈ lw_privs_4, lw_okq q := List.forall_mem_cons.mpr ⟨lw_p48, List.forall_mem_cons.mpr ⟨lw_p49, List.forall_mem_cons.mpr ⟨lw_p50, List.forall_mem_cons.mpr ⟨lw_p51, List.forall_mem_cons.mpr ⟨lw_p52, List.forall_mem_cons.mpr ⟨lw_p53, List.forall_mem_cons.mpr ⟨lw_p54, List.forall_mem_cons.mpr ⟨lw_p55, List.forall_mem_cons.mpr ⟨lw_p56, List.forall_mem_cons.mpr ⟨lw_p57, List.forall_mem_cons.mpr ⟨lw_p58, List.forall_mem_cons.mpr ⟨lw_p59, List.forall_mem_cons.mpr ⟨lw_p60, List.forall_mem_cons.mpr ⟨lw_p61, List.forall_mem_cons.mpr ⟨lw_p62, List.forall_mem_cons.mpr ⟨lw_p63, fun _ h => absurd h List.not_mem_nil⟩⟩⟩⟩⟩⟩⟩⟩⟩⟩⟩⟩⟩⟩⟩⟩
theorem lw_p64 : lw_okq (⟨"TurnQueuesModel", "isHouse", "()Z"⟩, 58) := ⟨⟨by decide +kernel, by decide +kernel⟩, List.mem_of_getElem? (i := 1259) (by decide +kernel), List.mem_of_getElem? (i := 1598) (by decide +kernel), List.mem_of_getElem? (i := 1599) (by decide +kernel)⟩
theorem lw_p65 : lw_okq (⟨"TurnQueuesModel", "deedMany", "()I"⟩, 58) := ⟨⟨by decide +kernel, by decide +kernel⟩, List.mem_of_getElem? (i := 1259) (by decide +kernel), List.mem_of_getElem? (i := 1602) (by decide +kernel), List.mem_of_getElem? (i := 1603) (by decide +kernel)⟩
theorem lw_p66 : lw_okq (⟨"TurnQueuesModel", "isVersion", "(I)Z"⟩, 58) := ⟨⟨by decide +kernel, by decide +kernel⟩, List.mem_of_getElem? (i := 1259) (by decide +kernel), List.mem_of_getElem? (i := 1610) (by decide +kernel), List.mem_of_getElem? (i := 1611) (by decide +kernel)⟩
theorem lw_p67 : lw_okq (⟨"TurnQueuesModel", "areLike", "(II)Z"⟩, 58) := ⟨⟨by decide +kernel, by decide +kernel⟩, List.mem_of_getElem? (i := 1259) (by decide +kernel), List.mem_of_getElem? (i := 1636) (by decide +kernel), List.mem_of_getElem? (i := 1637) (by decide +kernel)⟩
theorem lw_p68 : lw_okq (⟨"TurnQueuesModel", "meetOf", "(II)I"⟩, 58) := ⟨⟨by decide +kernel, by decide +kernel⟩, List.mem_of_getElem? (i := 1259) (by decide +kernel), List.mem_of_getElem? (i := 1648) (by decide +kernel), List.mem_of_getElem? (i := 1649) (by decide +kernel)⟩
theorem lw_p69 : lw_okq (⟨"TurnQueuesModel", "areTwins", "(II)Z"⟩, 58) := ⟨⟨by decide +kernel, by decide +kernel⟩, List.mem_of_getElem? (i := 1259) (by decide +kernel), List.mem_of_getElem? (i := 1660) (by decide +kernel), List.mem_of_getElem? (i := 1661) (by decide +kernel)⟩
theorem lw_p70 : lw_okq (⟨"TurnQueuesModel", "areLikeRows", "(III)Z"⟩, 58) := ⟨⟨by decide +kernel, by decide +kernel⟩, List.mem_of_getElem? (i := 1259) (by decide +kernel), List.mem_of_getElem? (i := 1664) (by decide +kernel), List.mem_of_getElem? (i := 1665) (by decide +kernel)⟩
theorem lw_p71 : lw_okq (⟨"TurnQueuesModel", "deepOf", "(I)I"⟩, 58) := ⟨⟨by decide +kernel, by decide +kernel⟩, List.mem_of_getElem? (i := 1259) (by decide +kernel), List.mem_of_getElem? (i := 1672) (by decide +kernel), List.mem_of_getElem? (i := 1673) (by decide +kernel)⟩
theorem lw_p72 : lw_okq (⟨"TurnQueuesModel", "deedOf", "(I)I"⟩, 58) := ⟨⟨by decide +kernel, by decide +kernel⟩, List.mem_of_getElem? (i := 1259) (by decide +kernel), List.mem_of_getElem? (i := 1685) (by decide +kernel), List.mem_of_getElem? (i := 1686) (by decide +kernel)⟩
theorem lw_p73 : lw_okq (⟨"TurnQueuesModel", "forgets", "()V"⟩, 58) := ⟨⟨by decide +kernel, by decide +kernel⟩, List.mem_of_getElem? (i := 1259) (by decide +kernel), List.mem_of_getElem? (i := 1693) (by decide +kernel), List.mem_of_getElem? (i := 1694) (by decide +kernel)⟩
theorem lw_p74 : lw_okq (⟨"TurnQueuesModel", "marks", "(II)V"⟩, 58) := ⟨⟨by decide +kernel, by decide +kernel⟩, List.mem_of_getElem? (i := 1259) (by decide +kernel), List.mem_of_getElem? (i := 1697) (by decide +kernel), List.mem_of_getElem? (i := 1698) (by decide +kernel)⟩
theorem lw_p75 : lw_okq (⟨"TurnQueuesModel", "marked", "(I)I"⟩, 58) := ⟨⟨by decide +kernel, by decide +kernel⟩, List.mem_of_getElem? (i := 1259) (by decide +kernel), List.mem_of_getElem? (i := 1709) (by decide +kernel), List.mem_of_getElem? (i := 1710) (by decide +kernel)⟩
theorem lw_p76 : lw_okq (⟨"TurnQueuesModel", "asksLaw", "(I)I"⟩, 58) := ⟨⟨by decide +kernel, by decide +kernel⟩, List.mem_of_getElem? (i := 1259) (by decide +kernel), List.mem_of_getElem? (i := 1759) (by decide +kernel), List.mem_of_getElem? (i := 1760) (by decide +kernel)⟩
theorem lw_p77 : lw_okq (⟨"TurnQueuesModel", "isTwoSided", "()Z"⟩, 58) := ⟨⟨by decide +kernel, by decide +kernel⟩, List.mem_of_getElem? (i := 1259) (by decide +kernel), List.mem_of_getElem? (i := 1763) (by decide +kernel), List.mem_of_getElem? (i := 1764) (by decide +kernel)⟩
theorem lw_p78 : lw_okq (⟨"TurnQueuesModel", "replays", "(II)I"⟩, 58) := ⟨⟨by decide +kernel, by decide +kernel⟩, List.mem_of_getElem? (i := 1259) (by decide +kernel), List.mem_of_getElem? (i := 1767) (by decide +kernel), List.mem_of_getElem? (i := 1768) (by decide +kernel)⟩
theorem lw_p79 : lw_okq (⟨"TurnQueuesModel", "isAtRest", "(I)Z"⟩, 58) := ⟨⟨by decide +kernel, by decide +kernel⟩, List.mem_of_getElem? (i := 1259) (by decide +kernel), List.mem_of_getElem? (i := 1791) (by decide +kernel), List.mem_of_getElem? (i := 1792) (by decide +kernel)⟩
def lw_privs_5 : List (MethodName × Nat) := [(⟨"TurnQueuesModel", "isHouse", "()Z"⟩, 58), (⟨"TurnQueuesModel", "deedMany", "()I"⟩, 58), (⟨"TurnQueuesModel", "isVersion", "(I)Z"⟩, 58), (⟨"TurnQueuesModel", "areLike", "(II)Z"⟩, 58), (⟨"TurnQueuesModel", "meetOf", "(II)I"⟩, 58), (⟨"TurnQueuesModel", "areTwins", "(II)Z"⟩, 58), (⟨"TurnQueuesModel", "areLikeRows", "(III)Z"⟩, 58), (⟨"TurnQueuesModel", "deepOf", "(I)I"⟩, 58), (⟨"TurnQueuesModel", "deedOf", "(I)I"⟩, 58), (⟨"TurnQueuesModel", "forgets", "()V"⟩, 58), (⟨"TurnQueuesModel", "marks", "(II)V"⟩, 58), (⟨"TurnQueuesModel", "marked", "(I)I"⟩, 58), (⟨"TurnQueuesModel", "asksLaw", "(I)I"⟩, 58), (⟨"TurnQueuesModel", "isTwoSided", "()Z"⟩, 58), (⟨"TurnQueuesModel", "replays", "(II)I"⟩, 58), (⟨"TurnQueuesModel", "isAtRest", "(I)Z"⟩, 58)]
theorem lw_r5 : ∀ q ∈ lw_privs_5, lw_okq q := List.forall_mem_cons.mpr ⟨lw_p64, List.forall_mem_cons.mpr ⟨lw_p65, List.forall_mem_cons.mpr ⟨lw_p66, List.forall_mem_cons.mpr ⟨lw_p67, List.forall_mem_cons.mpr ⟨lw_p68, List.forall_mem_cons.mpr ⟨lw_p69, List.forall_mem_cons.mpr ⟨lw_p70, List.forall_mem_cons.mpr ⟨lw_p71, List.forall_mem_cons.mpr ⟨lw_p72, List.forall_mem_cons.mpr ⟨lw_p73, List.forall_mem_cons.mpr ⟨lw_p74, List.forall_mem_cons.mpr ⟨lw_p75, List.forall_mem_cons.mpr ⟨lw_p76, List.forall_mem_cons.mpr ⟨lw_p77, List.forall_mem_cons.mpr ⟨lw_p78, List.forall_mem_cons.mpr ⟨lw_p79, fun _ h => absurd h List.not_mem_nil⟩⟩⟩⟩⟩⟩⟩⟩⟩⟩⟩⟩⟩⟩⟩⟩
theorem lw_p80 : lw_okq (⟨"TurnQueuesModel", "goesAll", "(II)V"⟩, 58) := ⟨⟨by decide +kernel, by decide +kernel⟩, List.mem_of_getElem? (i := 1259) (by decide +kernel), List.mem_of_getElem? (i := 1800) (by decide +kernel), List.mem_of_getElem? (i := 1801) (by decide +kernel)⟩
theorem lw_p81 : lw_okq (⟨"TurnQueuesModel", "goes", "(III)V"⟩, 58) := ⟨⟨by decide +kernel, by decide +kernel⟩, List.mem_of_getElem? (i := 1259) (by decide +kernel), List.mem_of_getElem? (i := 1804) (by decide +kernel), List.mem_of_getElem? (i := 1805) (by decide +kernel)⟩
theorem lw_p82 : lw_okq (⟨"TurnQueuesModel", "areThree", "(III)Z"⟩, 58) := ⟨⟨by decide +kernel, by decide +kernel⟩, List.mem_of_getElem? (i := 1259) (by decide +kernel), List.mem_of_getElem? (i := 1824) (by decide +kernel), List.mem_of_getElem? (i := 1825) (by decide +kernel)⟩
theorem lw_p83 : lw_okq (⟨"TurnQueuesModel", "laysWay", "(II)Z"⟩, 58) := ⟨⟨by decide +kernel, by decide +kernel⟩, List.mem_of_getElem? (i := 1259) (by decide +kernel), List.mem_of_getElem? (i := 1829) (by decide +kernel), List.mem_of_getElem? (i := 1830) (by decide +kernel)⟩
theorem lw_p84 : lw_okq (⟨"TurnQueuesModel", "grafts", "(I)I"⟩, 58) := ⟨⟨by decide +kernel, by decide +kernel⟩, List.mem_of_getElem? (i := 1259) (by decide +kernel), List.mem_of_getElem? (i := 1833) (by decide +kernel), List.mem_of_getElem? (i := 1834) (by decide +kernel)⟩
theorem lw_p85 : lw_okq (⟨"TurnQueuesModel", "putsIn", "(II)V"⟩, 58) := ⟨⟨by decide +kernel, by decide +kernel⟩, List.mem_of_getElem? (i := 1259) (by decide +kernel), List.mem_of_getElem? (i := 1837) (by decide +kernel), List.mem_of_getElem? (i := 1838) (by decide +kernel)⟩
theorem lw_p86 : lw_okq (⟨"TurnQueuesModel", "takesOut", "(I)V"⟩, 58) := ⟨⟨by decide +kernel, by decide +kernel⟩, List.mem_of_getElem? (i := 1259) (by decide +kernel), List.mem_of_getElem? (i := 1841) (by decide +kernel), List.mem_of_getElem? (i := 1842) (by decide +kernel)⟩
theorem lw_p87 : lw_okq (⟨"TurnQueuesModel", "tellsRow", "(Ljava/lang/String;I)V"⟩, 58) := ⟨⟨by decide +kernel, by decide +kernel⟩, List.mem_of_getElem? (i := 1259) (by decide +kernel), List.mem_of_getElem? (i := 1858) (by decide +kernel), List.mem_of_getElem? (i := 1859) (by decide +kernel)⟩
theorem lw_p88 : lw_okq (⟨"TurnQueuesModel", "tells", "(Ljava/lang/String;)V"⟩, 58) := ⟨⟨by decide +kernel, by decide +kernel⟩, List.mem_of_getElem? (i := 1259) (by decide +kernel), List.mem_of_getElem? (i := 1862) (by decide +kernel), List.mem_of_getElem? (i := 1863) (by decide +kernel)⟩
theorem lw_p89 : lw_okq (⟨"TurnQueuesModel", "tellsNumber", "(I)V"⟩, 58) := ⟨⟨by decide +kernel, by decide +kernel⟩, List.mem_of_getElem? (i := 1259) (by decide +kernel), List.mem_of_getElem? (i := 1867) (by decide +kernel), List.mem_of_getElem? (i := 1868) (by decide +kernel)⟩
theorem lw_p90 : lw_okq (⟨"TurnQueuesModel", "tellsState", "(I)V"⟩, 58) := ⟨⟨by decide +kernel, by decide +kernel⟩, List.mem_of_getElem? (i := 1259) (by decide +kernel), List.mem_of_getElem? (i := 1876) (by decide +kernel), List.mem_of_getElem? (i := 1877) (by decide +kernel)⟩
theorem lw_p91 : lw_okq (⟨"TurnQueuesModel", "walks", "(II)I"⟩, 58) := ⟨⟨by decide +kernel, by decide +kernel⟩, List.mem_of_getElem? (i := 1259) (by decide +kernel), List.mem_of_getElem? (i := 1896) (by decide +kernel), List.mem_of_getElem? (i := 1897) (by decide +kernel)⟩
theorem lw_p92 : lw_okq (⟨"TurnQueuesModel", "kindBy", "(I)I"⟩, 58) := ⟨⟨by decide +kernel, by decide +kernel⟩, List.mem_of_getElem? (i := 1259) (by decide +kernel), List.mem_of_getElem? (i := 1900) (by decide +kernel), List.mem_of_getElem? (i := 1901) (by decide +kernel)⟩
theorem lw_p93 : lw_okq (⟨"TurnQueuesModel", "isFull", "()Z"⟩, 58) := ⟨⟨by decide +kernel, by decide +kernel⟩, List.mem_of_getElem? (i := 1259) (by decide +kernel), List.mem_of_getElem? (i := 1909) (by decide +kernel), List.mem_of_getElem? (i := 1910) (by decide +kernel)⟩
theorem lw_p94 : lw_okq (⟨"TurnQueuesModel", "takesBack", "()V"⟩, 58) := ⟨⟨by decide +kernel, by decide +kernel⟩, List.mem_of_getElem? (i := 1259) (by decide +kernel), List.mem_of_getElem? (i := 1937) (by decide +kernel), List.mem_of_getElem? (i := 1938) (by decide +kernel)⟩
def lw_privs_6 : List (MethodName × Nat) := [(⟨"TurnQueuesModel", "goesAll", "(II)V"⟩, 58), (⟨"TurnQueuesModel", "goes", "(III)V"⟩, 58), (⟨"TurnQueuesModel", "areThree", "(III)Z"⟩, 58), (⟨"TurnQueuesModel", "laysWay", "(II)Z"⟩, 58), (⟨"TurnQueuesModel", "grafts", "(I)I"⟩, 58), (⟨"TurnQueuesModel", "putsIn", "(II)V"⟩, 58), (⟨"TurnQueuesModel", "takesOut", "(I)V"⟩, 58), (⟨"TurnQueuesModel", "tellsRow", "(Ljava/lang/String;I)V"⟩, 58), (⟨"TurnQueuesModel", "tells", "(Ljava/lang/String;)V"⟩, 58), (⟨"TurnQueuesModel", "tellsNumber", "(I)V"⟩, 58), (⟨"TurnQueuesModel", "tellsState", "(I)V"⟩, 58), (⟨"TurnQueuesModel", "walks", "(II)I"⟩, 58), (⟨"TurnQueuesModel", "kindBy", "(I)I"⟩, 58), (⟨"TurnQueuesModel", "isFull", "()Z"⟩, 58), (⟨"TurnQueuesModel", "takesBack", "()V"⟩, 58)]
theorem lw_r6 : ∀ q ∈ lw_privs_6, lw_okq q := List.forall_mem_cons.mpr ⟨lw_p80, List.forall_mem_cons.mpr ⟨lw_p81, List.forall_mem_cons.mpr ⟨lw_p82, List.forall_mem_cons.mpr ⟨lw_p83, List.forall_mem_cons.mpr ⟨lw_p84, List.forall_mem_cons.mpr ⟨lw_p85, List.forall_mem_cons.mpr ⟨lw_p86, List.forall_mem_cons.mpr ⟨lw_p87, List.forall_mem_cons.mpr ⟨lw_p88, List.forall_mem_cons.mpr ⟨lw_p89, List.forall_mem_cons.mpr ⟨lw_p90, List.forall_mem_cons.mpr ⟨lw_p91, List.forall_mem_cons.mpr ⟨lw_p92, List.forall_mem_cons.mpr ⟨lw_p93, List.forall_mem_cons.mpr ⟨lw_p94, fun _ h => absurd h List.not_mem_nil⟩⟩⟩⟩⟩⟩⟩⟩⟩⟩⟩⟩⟩⟩⟩
def lw_privs : List (MethodName × Nat) := lw_privs_1 ++ (lw_privs_2 ++ (lw_privs_3 ++ (lw_privs_4 ++ (lw_privs_5 ++ (lw_privs_6)))))
def lw_tbl : List Cond := k2_sels lw_privs ++ tables_1
theorem lw_privs_ok : ∀ q ∈ lw_privs, lw_okq q := by
  show ∀ q ∈ lw_privs_1 ++ (lw_privs_2 ++ (lw_privs_3 ++ (lw_privs_4 ++ (lw_privs_5 ++ (lw_privs_6))))), lw_okq q
  exact List.forall_mem_append.mpr ⟨lw_r1, List.forall_mem_append.mpr ⟨lw_r2, List.forall_mem_append.mpr ⟨lw_r3, List.forall_mem_append.mpr ⟨lw_r4, List.forall_mem_append.mpr ⟨lw_r5, lw_r6⟩⟩⟩⟩⟩
-- ===== end of PART A; then your names; then what follows =====
end
section
/-! THE PURE MACHINE: values, memory, one step. A value: int, long, a cell (kind, two numbers of the kind, address), other (0 null, 1 nothing, k + 2 the k-th text). -/
abbrev zz_V : Type := Int ⊕ Int ⊕ (Nat × Nat × Nat × Nat) ⊕ Nat
abbrev zI (i : Int) : zz_V := .inl i
abbrev zL (i : Int) : zz_V := .inr (.inl i)
abbrev zP (t p q a : Nat) : zz_V := .inr (.inr (.inl (t, p, q, a)))
abbrev zO (k : Nat) : zz_V := .inr (.inr (.inr k))
abbrev zN : zz_V := zO 0
abbrev zU : zz_V := zO 1
/-- the memory: int fields (field, address), arrays (address, place) -/
abbrev zz_M : Type := (Nat → Nat → Int) × (Nat → Nat → Int)
def zz_sf (σ : zz_M) (f a : Nat) (v : Int) : zz_M := (fun f' a' => if f' = f ∧ a' = a then v else σ.1 f' a', σ.2)
def zz_sa (σ : zz_M) (a i : Nat) (v : Int) : zz_M := (σ.1, fun a' i' => if a' = a ∧ i' = i then v else σ.2 a' i')
def zw (x : Int) : Int := (x + 2147483648) % 4294967296 - 2147483648
def zz_in (x : Int) : Prop := -2147483648 ≤ x ∧ x < 2147483648
def zz_inL (x : Int) : Prop := -9223372036854775808 ≤ x ∧ x < 9223372036854775808
def zz_b (f : Int32 → Int32 → Int32) (x y : Int) : Int := (f (Int32.ofInt x) (Int32.ofInt y)).toInt
def zz_l (f : Int64 → Int64 → Int64) (x y : Int) : Int := (f (Int64.ofInt x) (Int64.ofInt y)).toInt
def zz_div : Int → Int → Int := zz_b (fun x y => x / y)
def zz_rem : Int → Int → Int := zz_b (fun x y => x - x / y * y)
def zz_and : Int → Int → Int := zz_b (fun x y => x &&& y)
def zz_or : Int → Int → Int := zz_b (fun x y => x ||| y)
def zz_shr : Int → Int → Int := zz_b (fun x y => x >>> (y &&& 31))
def zz_ushr : Int → Int → Int := zz_b (fun x y => (x.toUInt32 >>> (y.toUInt32 &&& Int32.toUInt32 31)).toInt32)
def zz_i2b (x : Int) : Int := (Int32.ofInt x).toInt8.toInt32.toInt
def zz_i2z (x : Int) : Int := (vp_nar .boolean (Int32.ofInt x)).toInt
def zz_lsub : Int → Int → Int := zz_l (fun x y => x - y)
def zz_land : Int → Int → Int := zz_l (fun x y => x &&& y)
def zz_lshl (x y : Int) : Int := (Int64.ofInt x <<< ((Int32.ofInt y).toInt64 &&& 63)).toInt
def zz_lshr (x y : Int) : Int := (Int64.ofInt x >>> ((Int32.ofInt y).toInt64 &&& 63)).toInt
def zz_lushr (x y : Int) : Int := ((Int64.ofInt x).toUInt64 >>> ((Int32.ofInt y).toInt64.toUInt64 &&& Int64.toUInt64 63)).toInt64.toInt
def zz_lcmp (x y : Int) : Int := if x < y then -1 else if x = y then 0 else 1
/-- a row of code: its place, the instruction, its length, what it names -/
abbrev zz_C : Type := Nat × Instr × Nat × List Nat
/-- a method: number, name, bytes, words of locals, answer, code -/
abbrev zz_P : Type := Nat × MethodName × ByteArray × Nat × Option FieldType × List zz_C
abbrev zz_P.no (P : zz_P) : Nat := P.1
abbrev zz_P.y (P : zz_P) : MethodName := P.2.1
abbrev zz_P.bytes (P : zz_P) : ByteArray := P.2.2.1
abbrev zz_P.maxL (P : zz_P) : Nat := P.2.2.2.1
abbrev zz_P.ret (P : zz_P) : Option FieldType := P.2.2.2.2.1
abbrev zz_P.code (P : zz_P) : List zz_C := P.2.2.2.2.2
def zz_st (ls : List zz_V) (k : Nat) (v : zz_V) : Option (List zz_V) :=
  match decide (k < ls.length) with
  | false => none
  | true => match k with
    | 0 => some (ls.set 0 v)
    | k' + 1 => match ls[k']? with
      | some (.inr (.inl _)) => none
      | _ => some (ls.set (k' + 1) v)
def zz_ldI (ls : List zz_V) (st : List zz_V) (σ : zz_M) (k : Nat) : Option (List zz_V × List zz_V × zz_M) :=
  match ls[k]? with
  | some (.inl i) => some (ls, .inl i :: st, σ)
  | _ => none
def zz_ldL (ls : List zz_V) (st : List zz_V) (σ : zz_M) (k : Nat) : Option (List zz_V × List zz_V × zz_M) :=
  match ls[k]? with
  | some (.inr (.inl i)) => some (ls, .inr (.inl i) :: st, σ)
  | _ => none
def zz_ldA (ls : List zz_V) (st : List zz_V) (σ : zz_M) (k : Nat) : Option (List zz_V × List zz_V × zz_M) :=
  match ls[k]? with
  | some (.inr (.inr (.inl q))) => some (ls, .inr (.inr (.inl q)) :: st, σ)
  | some (.inr (.inr (.inr 0))) => some (ls, .inr (.inr (.inr 0)) :: st, σ)
  | some (.inr (.inr (.inr (k + 2)))) => some (ls, .inr (.inr (.inr (k + 2))) :: st, σ)
  | _ => none
def zz_stI (ls : List zz_V) (st : List zz_V) (σ : zz_M) (k : Nat) : Option (List zz_V × List zz_V × zz_M) :=
  match st with
  | .inl i :: r => match zz_st ls k (.inl i) with
    | some ls' => some (ls', r, σ)
    | none => none
  | _ => none
def zz_stA (ls : List zz_V) (st : List zz_V) (σ : zz_M) (k : Nat) : Option (List zz_V × List zz_V × zz_M) :=
  match st with
  | .inr (.inr (.inl q)) :: r => match zz_st ls k (.inr (.inr (.inl q))) with
    | some ls' => some (ls', r, σ)
    | none => none
  | .inr (.inr (.inr 0)) :: r => match zz_st ls k (.inr (.inr (.inr 0))) with
    | some ls' => some (ls', r, σ)
    | none => none
  | _ => none
/-- a field that holds a cell: its kind, two numbers, how far behind the object it lies -/
def zz_rf (f p q : Nat) : Option (Nat × Nat × Nat × Nat) := match f with
  | 1 => some (51, p, 0, 1)
  | 101 => some (50, p, 0, 1)
  | 102 => some (50, p, 0, 2)
  | 103 => some (50, p, 0, 3)
  | 104 => some (50, p, 0, 4)
  | 205 => some (50, 60, 0, 1)
  | 206 => some (50, 60, 0, 2)
  | 207 => some (50, 60, 0, 3)
  | 300 => some (2, 0, 0, 1)
  | 301 => some (4, 1890, 60, 5)
  | 302 => some (1, 1890, 0, 6)
  | 303 => some (53, 61, 1009, 12)
  | 304 => some (54, 61, 1609, 13)
  | 305 => some (50, 60, 0, 14)
  | 306 => some (52, 60, 0, 15)
  | 307 => some (50, 60, 0, 16)
  | 308 => some (50, 60, 0, 17)
  | 309 => some (0, 1200, 0, 18)
  | 310 => some (0, 1200, 0, 20)
  | 400 => some (1, p, 0, 1)
  | 403 => some (50, q, 0, 6)
  | 501 => some (50, p, 0, 1)
  | 600 => some (2, 0, 0, 1)
  | 603 => some (50, 41, 0, 5)
  | 804 => some (50, 6, 0, 1)
  | 805 => some (50, 6, 0, 2)
  | 806 => some (50, 6, 0, 3)
  | 807 => some (4, 0, 0, 4)
  | 808 => some (53, 7, 107, 11)
  | 900 => some (7, 0, 0, 1)
  | 901 => some (7, 0, 0, 2)
  | 902 => some (7, 0, 0, 3)
  | 903 => some (7, 0, 0, 4)
  | 904 => some (7, 0, 0, 5)
  | 905 => some (7, 0, 0, 6)
  | 1003 => some (5, 120, 0, 1)
  | 1004 => some (4, 0, 0, 3)
  | 1005 => some (9, 0, 0, 10)
  | 1006 => some (53, 61, 107, 17)
  | 1100 => some (0, 600, 0, 1)
  | 1101 => some (0, 1200, 0, 3)
  | 1102 => some (6, 0, 0, 5)
  | 1103 => some (3, 0, 0, 11)
  | 1104 => some (10, 0, 0, 582)
  | 1105 => some (8, 0, 0, 1027)
  | 1106 => some (55, 3, 104, 1088)
  | 1201 => some (50, 20000, 0, 1)
  | 1202 => some (50, 20000, 0, 2)
  | 1204 => some (50, 2184, 0, 3)
  | 1210 => some (50, 800, 0, 4)
  | 1216 => some (50, 61, 0, 5)
  | 1217 => some (50, 61, 0, 6)
  | 1218 => some (50, 61, 0, 7)
  | 1219 => some (50, 61, 0, 8)
  | 1220 => some (52, 61, 0, 9)
  | 1221 => some (50, 61, 0, 10)
  | 1222 => some (50, 3904, 0, 11)
  | 1223 => some (50, 61, 0, 12)
  | 1224 => some (51, 600, 0, 13)
  | 1226 => some (50, 5, 0, 14)
  | 1237 => some (50, 40, 0, 15)
  | 1238 => some (50, 40, 0, 16)
  | 1239 => some (50, 40, 0, 17)
  | 1240 => some (50, 41, 0, 18)
  | 1241 => some (50, 20000, 0, 19)
  | 1248 => some (50, 6, 0, 20)
  | 1249 => some (50, 6, 0, 21)
  | 1250 => some (50, 61, 0, 22)
  | 1252 => some (50, 800, 0, 23)
  | 1255 => some (51, 1400, 0, 24)
  | 1257 => some (50, 564, 0, 25)
  | _ => none
def zz_isZ (f : Nat) : Bool := match f with
  | 200 => true
  | 401 => true
  | 402 => true
  | 1208 => true
  | 1209 => true
  | _ => false
def zz_gf (f : Nat) (st : List zz_V) (σ : zz_M) : Option (List zz_V × zz_M) :=
  match st with
  | .inr (.inr (.inl (t, p, q, a))) :: r => match Nat.beq (f / 100) t with
    | true => match zz_rf f p q with
      | some (t', p', q', o) => some (.inr (.inr (.inl (t', p', q', a + o))) :: r, σ)
      | none => some (.inl (σ.1 f a) :: r, σ)
    | false => none
  | _ => none
def zz_pf (f : Nat) (st : List zz_V) (σ : zz_M) : Option (List zz_V × zz_M) :=
  match st with
  | .inl v :: .inr (.inr (.inl (t, p, q, a))) :: r => match Nat.beq (f / 100) t with
    | true => match zz_rf f p q with
      | some _ => none
      | none => match zz_isZ f with
        | true => none
        | false => some (r, zz_sf σ f a v)
    | false => none
  | _ => none
def zz_c1 : zz_V → Bool
  | .inr (.inl _) => false
  | .inr (.inr (.inr 1)) => false
  | _ => true
/-- one step that neither branches nor calls -/
def zz_step (ins : Instr) (ts : List Nat) (ls st : List zz_V) (σ : zz_M) : Option (List zz_V × List zz_V × zz_M) :=
  match ins with
  | .iload_n k => zz_ldI ls st σ k
  | .iload k => zz_ldI ls st σ k
  | .lload_n k => zz_ldL ls st σ k
  | .lload k => zz_ldL ls st σ k
  | .aload_n k => zz_ldA ls st σ k
  | .aload k => zz_ldA ls st σ k
  | .istore_n k => zz_stI ls st σ k
  | .istore k => zz_stI ls st σ k
  | .astore_n k => zz_stA ls st σ k
  | .astore k => zz_stA ls st σ k
  | .iconst n => some (ls, .inl n :: st, σ)
  | .bipush n => some (ls, .inl n :: st, σ)
  | .sipush n => some (ls, .inl n :: st, σ)
  | .lconst n => some (ls, .inr (.inl (n : Nat)) :: st, σ)
  | .aconst_null => some (ls, .inr (.inr (.inr 0)) :: st, σ)
  | .iadd => match st with
    | .inl y :: .inl x :: r => some (ls, .inl (zw (x + y)) :: r, σ)
    | _ => none
  | .isub => match st with
    | .inl y :: .inl x :: r => some (ls, .inl (zw (x - y)) :: r, σ)
    | _ => none
  | .imul => match st with
    | .inl y :: .inl x :: r => some (ls, .inl (zw (x * y)) :: r, σ)
    | _ => none
  | .iand => match st with
    | .inl y :: .inl x :: r => some (ls, .inl (zz_and x y) :: r, σ)
    | _ => none
  | .ior => match st with
    | .inl y :: .inl x :: r => some (ls, .inl (zz_or x y) :: r, σ)
    | _ => none
  | .ishr => match st with
    | .inl y :: .inl x :: r => some (ls, .inl (zz_shr x y) :: r, σ)
    | _ => none
  | .iushr => match st with
    | .inl y :: .inl x :: r => some (ls, .inl (zz_ushr x y) :: r, σ)
    | _ => none
  | .i2b => match st with
    | .inl x :: r => some (ls, .inl (zz_i2b x) :: r, σ)
    | _ => none
  | .i2l => match st with
    | .inl x :: r => some (ls, .inr (.inl x) :: r, σ)
    | _ => none
  | .lsub => match st with
    | .inr (.inl y) :: .inr (.inl x) :: r => some (ls, .inr (.inl (zz_lsub x y)) :: r, σ)
    | _ => none
  | .land => match st with
    | .inr (.inl y) :: .inr (.inl x) :: r => some (ls, .inr (.inl (zz_land x y)) :: r, σ)
    | _ => none
  | .lcmp => match st with
    | .inr (.inl y) :: .inr (.inl x) :: r => some (ls, .inl (zz_lcmp x y) :: r, σ)
    | _ => none
  | .lshl => match st with
    | .inl y :: .inr (.inl x) :: r => some (ls, .inr (.inl (zz_lshl x y)) :: r, σ)
    | _ => none
  | .lshr => match st with
    | .inl y :: .inr (.inl x) :: r => some (ls, .inr (.inl (zz_lshr x y)) :: r, σ)
    | _ => none
  | .lushr => match st with
    | .inl y :: .inr (.inl x) :: r => some (ls, .inr (.inl (zz_lushr x y)) :: r, σ)
    | _ => none
  | .iinc k n => match ls[k]? with
    | some (.inl x) => match zz_st ls k (.inl (zw (x + n))) with
      | some ls' => some (ls', st, σ)
      | none => none
    | _ => none
  | .dup => match st with
    | v :: r => match zz_c1 v with
      | true => some (ls, v :: v :: r, σ)
      | false => none
    | _ => none
  | .dup2 => match st with
    | v :: w :: r => match zz_c1 v, zz_c1 w with
      | true, true => some (ls, v :: w :: v :: w :: r, σ)
      | _, _ => none
    | _ => none
  | .pop => match st with
    | v :: r => match zz_c1 v with
      | true => some (ls, r, σ)
      | false => none
    | _ => none
  | .getfield _ => match ts with
    | f :: _ => match zz_gf f st σ with
      | some (st', σ') => some (ls, st', σ')
      | none => none
    | _ => none
  | .putfield _ => match ts with
    | f :: _ => match zz_pf f st σ with
      | some (st', σ') => some (ls, st', σ')
      | none => none
    | _ => none
  | .arraylength => match st with
    | .inr (.inr (.inl (t, p, _, _))) :: r => match Nat.ble 50 t with
      | true => some (ls, .inl (p : Nat) :: r, σ)
      | false => none
    | _ => none
  | .ldc _ => match ts with
    | 0 :: k :: _ => some (ls, .inr (.inr (.inr (k + 2))) :: st, σ)
    | 1 :: v :: _ => some (ls, .inl (v : Nat) :: st, σ)
    | _ => none
  | .ldc_w _ => match ts with
    | 0 :: k :: _ => some (ls, .inr (.inr (.inr (k + 2))) :: st, σ)
    | 1 :: v :: _ => some (ls, .inl (v : Nat) :: st, σ)
    | _ => none
  | .ldc2_w _ => match ts with
    | v :: _ => some (ls, .inr (.inl (v : Nat)) :: st, σ)
    | _ => none
  | _ => none
def zz_s1 (code : List zz_C) (j : Nat) (ls st : List zz_V) (σ : zz_M) : Option (Nat × List zz_V × List zz_V × zz_M) :=
  match code[j]? with
  | some e => match zz_step e.2.1 e.2.2.2 ls st σ with
    | some (ls', st', σ') => some (j + 1, ls', st', σ')
    | none => none
  | none => none
end
section
/-! the classes, their fields; printed by program -/
/-- the tables' words that last from call to call -/
def zz_tb : List Cond := lw_tbl.filter goodWord
theorem zz_mem_r {ws : List Cond} (ps : List Nat) (h : ws.map some = ps.map (fun i => lw_tbl[i]?)) (hg : ws.all goodWord = true) : ∀ w ∈ ws, w ∈ zz_tb := by
  intro w hw
  have h1 : some w ∈ ws.map some := List.mem_map.mpr ⟨w, hw, rfl⟩
  rw [h] at h1
  obtain ⟨i, -, hi⟩ := List.mem_map.mp h1
  exact List.mem_filter.mpr ⟨List.mem_of_getElem? hi, List.all_eq_true.mp hg w hw⟩
def zz_R0 : String := "TurnQueues$Bytes"
def zz_T0 : u_T := fun k => match k with
  | 0 => ("TurnQueues$Bytes", "length", "I", false)
  | _ => ("TurnQueues$Bytes", "values", "[B", true)
def zz_t0 : Nat → FieldType := fun k => match k with
  | 0 => .int
  | _ => .array .byte
theorem zz_nm0 : ∀ a, a < 2 → ∀ b, b < 2 → a ≠ b → (zz_T0 a).2.1 ≠ (zz_T0 b).2.1 := by decide +kernel
theorem zz_to0 : ∀ k, k < 2 → parseFieldDescriptor (zz_T0 k).2.2.1 = some (zz_t0 k) := by decide +kernel
def zz_R1 : String := "TurnQueues$Cells"
def zz_T1 : u_T := fun k => match k with
  | 0 => ("TurnQueues$Cells", "made", "I", false)
  | 1 => ("TurnQueues$Cells", "numbers", "[I", true)
  | 2 => ("TurnQueues$Cells", "nexts", "[I", true)
  | 3 => ("TurnQueues$Cells", "makers", "[I", true)
  | 4 => ("TurnQueues$Cells", "marks", "[I", true)
  | _ => ("TurnQueues$Cells", "mark", "I", false)
def zz_t1 : Nat → FieldType := fun k => match k with
  | 0 => .int
  | 1 => .array .int
  | 2 => .array .int
  | 3 => .array .int
  | 4 => .array .int
  | _ => .int
theorem zz_nm1 : ∀ a, a < 6 → ∀ b, b < 6 → a ≠ b → (zz_T1 a).2.1 ≠ (zz_T1 b).2.1 := by decide +kernel
theorem zz_to1 : ∀ k, k < 6 → parseFieldDescriptor (zz_T1 k).2.2.1 = some (zz_t1 k) := by decide +kernel
def zz_R2 : String := "TurnQueues$Deeds"
def zz_T2 : u_T := fun k => match k with
  | 0 => ("TurnQueues$Deeds", "housed", "Z", false)
  | 1 => ("TurnQueues$Deeds", "law", "I", false)
  | 2 => ("TurnQueues$Deeds", "ratio", "I", false)
  | 3 => ("TurnQueues$Deeds", "told", "I", false)
  | 4 => ("TurnQueues$Deeds", "many", "I", false)
  | 5 => ("TurnQueues$Deeds", "kinds", "[I", true)
  | 6 => ("TurnQueues$Deeds", "bases", "[I", true)
  | _ => ("TurnQueues$Deeds", "numbers", "[I", true)
def zz_t2 : Nat → FieldType := fun k => match k with
  | 0 => .boolean
  | 1 => .int
  | 2 => .int
  | 3 => .int
  | 4 => .int
  | 5 => .array .int
  | 6 => .array .int
  | _ => .array .int
theorem zz_nm2 : ∀ a, a < 8 → ∀ b, b < 8 → a ≠ b → (zz_T2 a).2.1 ≠ (zz_T2 b).2.1 := by decide +kernel
theorem zz_to2 : ∀ k, k < 8 → parseFieldDescriptor (zz_T2 k).2.2.1 = some (zz_t2 k) := by decide +kernel
def zz_R3 : String := "TurnQueues$History"
def zz_T3 : u_T := fun k => match k with
  | 0 => ("TurnQueues$History", "deeds", "LTurnQueues$Deeds;", true)
  | 1 => ("TurnQueues$History", "mill", "LTurnQueues$Mill;", true)
  | 2 => ("TurnQueues$History", "cells", "LTurnQueues$Cells;", true)
  | 3 => ("TurnQueues$History", "states", "[LTurnQueues$State;", true)
  | 4 => ("TurnQueues$History", "queues", "[LTurnQueues$Numbers;", true)
  | 5 => ("TurnQueues$History", "spent", "[I", true)
  | 6 => ("TurnQueues$History", "late", "[Z", true)
  | 7 => ("TurnQueues$History", "cellsBefore", "[I", true)
  | 8 => ("TurnQueues$History", "way", "[I", true)
  | 9 => ("TurnQueues$History", "told", "LTurnQueues$Bytes;", true)
  | _ => ("TurnQueues$History", "otherTold", "LTurnQueues$Bytes;", true)
def zz_t3 : Nat → FieldType := fun k => match k with
  | 0 => .object "TurnQueues$Deeds"
  | 1 => .object "TurnQueues$Mill"
  | 2 => .object "TurnQueues$Cells"
  | 3 => .array (.object "TurnQueues$State")
  | 4 => .array (.object "TurnQueues$Numbers")
  | 5 => .array .int
  | 6 => .array .boolean
  | 7 => .array .int
  | 8 => .array .int
  | 9 => .object "TurnQueues$Bytes"
  | _ => .object "TurnQueues$Bytes"
theorem zz_nm3 : ∀ a, a < 11 → ∀ b, b < 11 → a ≠ b → (zz_T3 a).2.1 ≠ (zz_T3 b).2.1 := by decide +kernel
theorem zz_to3 : ∀ k, k < 11 → parseFieldDescriptor (zz_T3 k).2.2.1 = some (zz_t3 k) := by decide +kernel
def zz_R4 : String := "TurnQueues$Mill"
def zz_T4 : u_T := fun k => match k with
  | 0 => ("TurnQueues$Mill", "cells", "LTurnQueues$Cells;", true)
  | 1 => ("TurnQueues$Mill", "turned", "Z", false)
  | 2 => ("TurnQueues$Mill", "wasOverdue", "Z", false)
  | 3 => ("TurnQueues$Mill", "laid", "[I", true)
  | 4 => ("TurnQueues$Mill", "law", "I", false)
  | 5 => ("TurnQueues$Mill", "ratio", "I", false)
  | 6 => ("TurnQueues$Mill", "maker", "I", false)
  | _ => ("TurnQueues$Mill", "steps", "I", false)
def zz_t4 : Nat → FieldType := fun k => match k with
  | 0 => .object "TurnQueues$Cells"
  | 1 => .boolean
  | 2 => .boolean
  | 3 => .array .int
  | 4 => .int
  | 5 => .int
  | 6 => .int
  | _ => .int
theorem zz_nm4 : ∀ a, a < 8 → ∀ b, b < 8 → a ≠ b → (zz_T4 a).2.1 ≠ (zz_T4 b).2.1 := by decide +kernel
theorem zz_to4 : ∀ k, k < 8 → parseFieldDescriptor (zz_T4 k).2.2.1 = some (zz_t4 k) := by decide +kernel
def zz_R5 : String := "TurnQueues$Numbers"
def zz_T5 : u_T := fun k => match k with
  | 0 => ("TurnQueues$Numbers", "many", "I", false)
  | _ => ("TurnQueues$Numbers", "values", "[I", true)
def zz_t5 : Nat → FieldType := fun k => match k with
  | 0 => .int
  | _ => .array .int
theorem zz_nm5 : ∀ a, a < 2 → ∀ b, b < 2 → a ≠ b → (zz_T5 a).2.1 ≠ (zz_T5 b).2.1 := by decide +kernel
theorem zz_to5 : ∀ k, k < 2 → parseFieldDescriptor (zz_T5 k).2.2.1 = some (zz_t5 k) := by decide +kernel
def zz_R6 : String := "TurnQueues$Reader"
def zz_T6 : u_T := fun k => match k with
  | 0 => ("TurnQueues$Reader", "draft", "LTurnQueues$Deeds;", true)
  | 1 => ("TurnQueues$Reader", "fault", "I", false)
  | 2 => ("TurnQueues$Reader", "faultPlace", "I", false)
  | 3 => ("TurnQueues$Reader", "sizes", "[I", true)
  | 4 => ("TurnQueues$Reader", "token", "I", false)
  | 5 => ("TurnQueues$Reader", "start", "I", false)
  | 6 => ("TurnQueues$Reader", "next", "I", false)
  | _ => ("TurnQueues$Reader", "value", "I", false)
def zz_t6 : Nat → FieldType := fun k => match k with
  | 0 => .object "TurnQueues$Deeds"
  | 1 => .int
  | 2 => .int
  | 3 => .array .int
  | 4 => .int
  | 5 => .int
  | 6 => .int
  | _ => .int
theorem zz_nm6 : ∀ a, a < 8 → ∀ b, b < 8 → a ≠ b → (zz_T6 a).2.1 ≠ (zz_T6 b).2.1 := by decide +kernel
theorem zz_to6 : ∀ k, k < 8 → parseFieldDescriptor (zz_T6 k).2.2.1 = some (zz_t6 k) := by decide +kernel
def zz_R7 : String := "TurnQueues$Row"
def zz_T7 : u_T := fun k => match k with
  | 0 => ("TurnQueues$Row", "head", "I", false)
  | _ => ("TurnQueues$Row", "length", "I", false)
def zz_t7 : Nat → FieldType := fun k => match k with
  | 0 => .int
  | _ => .int
theorem zz_nm7 : ∀ a, a < 2 → ∀ b, b < 2 → a ≠ b → (zz_T7 a).2.1 ≠ (zz_T7 b).2.1 := by decide +kernel
theorem zz_to7 : ∀ k, k < 2 → parseFieldDescriptor (zz_T7 k).2.2.1 = some (zz_t7 k) := by decide +kernel
def zz_R8 : String := "TurnQueues$Scout"
def zz_T8 : u_T := fun k => match k with
  | 0 => ("TurnQueues$Scout", "most", "I", false)
  | 1 => ("TurnQueues$Scout", "mostTogether", "I", false)
  | 2 => ("TurnQueues$Scout", "tries", "I", false)
  | 3 => ("TurnQueues$Scout", "longest", "I", false)
  | 4 => ("TurnQueues$Scout", "tried", "[I", true)
  | 5 => ("TurnQueues$Scout", "worst", "[I", true)
  | 6 => ("TurnQueues$Scout", "mostAtLevel", "[I", true)
  | 7 => ("TurnQueues$Scout", "mill", "LTurnQueues$Mill;", true)
  | _ => ("TurnQueues$Scout", "levels", "[LTurnQueues$State;", true)
def zz_t8 : Nat → FieldType := fun k => match k with
  | 0 => .int
  | 1 => .int
  | 2 => .int
  | 3 => .int
  | 4 => .array .int
  | 5 => .array .int
  | 6 => .array .int
  | 7 => .object "TurnQueues$Mill"
  | _ => .array (.object "TurnQueues$State")
theorem zz_nm8 : ∀ a, a < 9 → ∀ b, b < 9 → a ≠ b → (zz_T8 a).2.1 ≠ (zz_T8 b).2.1 := by decide +kernel
theorem zz_to8 : ∀ k, k < 9 → parseFieldDescriptor (zz_T8 k).2.2.1 = some (zz_t8 k) := by decide +kernel
def zz_R9 : String := "TurnQueues$State"
def zz_T9 : u_T := fun k => match k with
  | 0 => ("TurnQueues$State", "front", "LTurnQueues$Row;", true)
  | 1 => ("TurnQueues$State", "back", "LTurnQueues$Row;", true)
  | 2 => ("TurnQueues$State", "a", "LTurnQueues$Row;", true)
  | 3 => ("TurnQueues$State", "c", "LTurnQueues$Row;", true)
  | 4 => ("TurnQueues$State", "d", "LTurnQueues$Row;", true)
  | 5 => ("TurnQueues$State", "e", "LTurnQueues$Row;", true)
  | 6 => ("TurnQueues$State", "total", "I", false)
  | 7 => ("TurnQueues$State", "count", "I", false)
  | 8 => ("TurnQueues$State", "mode", "I", false)
  | 9 => ("TurnQueues$State", "good", "I", false)
  | 10 => ("TurnQueues$State", "frontOwes", "I", false)
  | _ => ("TurnQueues$State", "backOwes", "I", false)
def zz_t9 : Nat → FieldType := fun k => match k with
  | 0 => .object "TurnQueues$Row"
  | 1 => .object "TurnQueues$Row"
  | 2 => .object "TurnQueues$Row"
  | 3 => .object "TurnQueues$Row"
  | 4 => .object "TurnQueues$Row"
  | 5 => .object "TurnQueues$Row"
  | 6 => .int
  | 7 => .int
  | 8 => .int
  | 9 => .int
  | 10 => .int
  | _ => .int
theorem zz_nm9 : ∀ a, a < 12 → ∀ b, b < 12 → a ≠ b → (zz_T9 a).2.1 ≠ (zz_T9 b).2.1 := by decide +kernel
theorem zz_to9 : ∀ k, k < 12 → parseFieldDescriptor (zz_T9 k).2.2.1 = some (zz_t9 k) := by decide +kernel
def zz_R10 : String := "TurnQueues$Trial"
def zz_T10 : u_T := fun k => match k with
  | 0 => ("TurnQueues$Trial", "most", "I", false)
  | 1 => ("TurnQueues$Trial", "steps", "I", false)
  | 2 => ("TurnQueues$Trial", "clash", "I", false)
  | 3 => ("TurnQueues$Trial", "queue", "LTurnQueues$Numbers;", true)
  | 4 => ("TurnQueues$Trial", "mill", "LTurnQueues$Mill;", true)
  | 5 => ("TurnQueues$Trial", "now", "LTurnQueues$State;", true)
  | _ => ("TurnQueues$Trial", "tree", "[LTurnQueues$State;", true)
def zz_t10 : Nat → FieldType := fun k => match k with
  | 0 => .int
  | 1 => .int
  | 2 => .int
  | 3 => .object "TurnQueues$Numbers"
  | 4 => .object "TurnQueues$Mill"
  | 5 => .object "TurnQueues$State"
  | _ => .array (.object "TurnQueues$State")
theorem zz_nm10 : ∀ a, a < 7 → ∀ b, b < 7 → a ≠ b → (zz_T10 a).2.1 ≠ (zz_T10 b).2.1 := by decide +kernel
theorem zz_to10 : ∀ k, k < 7 → parseFieldDescriptor (zz_T10 k).2.2.1 = some (zz_t10 k) := by decide +kernel
def zz_R11 : String := "TurnQueues"
def zz_T11 : u_T := fun k => match k with
  | 0 => ("TurnQueues", "tape", "LTurnQueues$Bytes;", true)
  | 1 => ("TurnQueues", "out", "LTurnQueues$Bytes;", true)
  | 2 => ("TurnQueues", "reader", "LTurnQueues$Reader;", true)
  | 3 => ("TurnQueues", "history", "LTurnQueues$History;", true)
  | 4 => ("TurnQueues", "trial", "LTurnQueues$Trial;", true)
  | 5 => ("TurnQueues", "scout", "LTurnQueues$Scout;", true)
  | _ => ("TurnQueues", "images", "[LTurnQueues$Deeds;", true)
def zz_t11 : Nat → FieldType := fun k => match k with
  | 0 => .object "TurnQueues$Bytes"
  | 1 => .object "TurnQueues$Bytes"
  | 2 => .object "TurnQueues$Reader"
  | 3 => .object "TurnQueues$History"
  | 4 => .object "TurnQueues$Trial"
  | 5 => .object "TurnQueues$Scout"
  | _ => .array (.object "TurnQueues$Deeds")
theorem zz_nm11 : ∀ a, a < 7 → ∀ b, b < 7 → a ≠ b → (zz_T11 a).2.1 ≠ (zz_T11 b).2.1 := by decide +kernel
theorem zz_to11 : ∀ k, k < 7 → parseFieldDescriptor (zz_T11 k).2.2.1 = some (zz_t11 k) := by decide +kernel
def zz_R12 : String := "TurnQueuesModel"
def zz_T12 : u_T := fun k => match k with
  | 0 => ("TurnQueuesModel", "thrown", "I", false)
  | 1 => ("TurnQueuesModel", "numberOf", "[I", true)
  | 2 => ("TurnQueuesModel", "nextOf", "[I", true)
  | 3 => ("TurnQueuesModel", "cells", "I", false)
  | 4 => ("TurnQueuesModel", "stands", "[I", true)
  | 5 => ("TurnQueuesModel", "law", "I", false)
  | 6 => ("TurnQueuesModel", "balance", "I", false)
  | 7 => ("TurnQueuesModel", "steps", "I", false)
  | 8 => ("TurnQueuesModel", "hasBegun", "Z", false)
  | 9 => ("TurnQueuesModel", "isOverdue", "Z", false)
  | 10 => ("TurnQueuesModel", "line", "[I", true)
  | 11 => ("TurnQueuesModel", "houseLaw", "I", false)
  | 12 => ("TurnQueuesModel", "houseBalance", "I", false)
  | 13 => ("TurnQueuesModel", "texts", "I", false)
  | 14 => ("TurnQueuesModel", "toldMany", "I", false)
  | 15 => ("TurnQueuesModel", "versions", "I", false)
  | 16 => ("TurnQueuesModel", "madeOf", "[I", true)
  | 17 => ("TurnQueuesModel", "kindOf", "[I", true)
  | 18 => ("TurnQueuesModel", "numberBy", "[I", true)
  | 19 => ("TurnQueuesModel", "spentBy", "[I", true)
  | 20 => ("TurnQueuesModel", "wasOverdue", "[Z", true)
  | 21 => ("TurnQueuesModel", "cellsAhead", "[I", true)
  | 22 => ("TurnQueuesModel", "queue", "[I", true)
  | 23 => ("TurnQueuesModel", "size0", "[I", true)
  | 24 => ("TurnQueuesModel", "tape", "[B", true)
  | 25 => ("TurnQueuesModel", "taped", "I", false)
  | 26 => ("TurnQueuesModel", "five", "[I", true)
  | 27 => ("TurnQueuesModel", "size", "I", false)
  | 28 => ("TurnQueuesModel", "at", "I", false)
  | 29 => ("TurnQueuesModel", "from", "I", false)
  | 30 => ("TurnQueuesModel", "token", "I", false)
  | 31 => ("TurnQueuesModel", "value", "I", false)
  | 32 => ("TurnQueuesModel", "faultKind", "I", false)
  | 33 => ("TurnQueuesModel", "faultPlace", "I", false)
  | 34 => ("TurnQueuesModel", "freshLaw", "I", false)
  | 35 => ("TurnQueuesModel", "freshBalance", "I", false)
  | 36 => ("TurnQueuesModel", "freshMany", "I", false)
  | 37 => ("TurnQueuesModel", "freshOf", "[I", true)
  | 38 => ("TurnQueuesModel", "freshKind", "[I", true)
  | 39 => ("TurnQueuesModel", "freshNumber", "[I", true)
  | 40 => ("TurnQueuesModel", "freshSize", "[I", true)
  | 41 => ("TurnQueuesModel", "met", "[I", true)
  | 42 => ("TurnQueuesModel", "most", "I", false)
  | 43 => ("TurnQueuesModel", "mostOne", "I", false)
  | 44 => ("TurnQueuesModel", "mostAll", "I", false)
  | 45 => ("TurnQueuesModel", "rows", "I", false)
  | 46 => ("TurnQueuesModel", "mostLast", "I", false)
  | 47 => ("TurnQueuesModel", "all", "I", false)
  | 48 => ("TurnQueuesModel", "tried", "[I", true)
  | 49 => ("TurnQueuesModel", "worstRow", "[I", true)
  | 50 => ("TurnQueuesModel", "wayOf", "[I", true)
  | 51 => ("TurnQueuesModel", "wayMany", "I", false)
  | 52 => ("TurnQueuesModel", "numbers", "[I", true)
  | 53 => ("TurnQueuesModel", "numberMany", "I", false)
  | 54 => ("TurnQueuesModel", "clash", "I", false)
  | 55 => ("TurnQueuesModel", "out", "[B", true)
  | 56 => ("TurnQueuesModel", "outMany", "I", false)
  | _ => ("TurnQueuesModel", "images", "[I", true)
def zz_t12 : Nat → FieldType := fun k => match k with
  | 0 => .int
  | 1 => .array .int
  | 2 => .array .int
  | 3 => .int
  | 4 => .array .int
  | 5 => .int
  | 6 => .int
  | 7 => .int
  | 8 => .boolean
  | 9 => .boolean
  | 10 => .array .int
  | 11 => .int
  | 12 => .int
  | 13 => .int
  | 14 => .int
  | 15 => .int
  | 16 => .array .int
  | 17 => .array .int
  | 18 => .array .int
  | 19 => .array .int
  | 20 => .array .boolean
  | 21 => .array .int
  | 22 => .array .int
  | 23 => .array .int
  | 24 => .array .byte
  | 25 => .int
  | 26 => .array .int
  | 27 => .int
  | 28 => .int
  | 29 => .int
  | 30 => .int
  | 31 => .int
  | 32 => .int
  | 33 => .int
  | 34 => .int
  | 35 => .int
  | 36 => .int
  | 37 => .array .int
  | 38 => .array .int
  | 39 => .array .int
  | 40 => .array .int
  | 41 => .array .int
  | 42 => .int
  | 43 => .int
  | 44 => .int
  | 45 => .int
  | 46 => .int
  | 47 => .int
  | 48 => .array .int
  | 49 => .array .int
  | 50 => .array .int
  | 51 => .int
  | 52 => .array .int
  | 53 => .int
  | 54 => .int
  | 55 => .array .byte
  | 56 => .int
  | _ => .array .int
theorem zz_nm12 : ∀ a, a < 58 → ∀ b, b < 58 → a ≠ b → (zz_T12 a).2.1 ≠ (zz_T12 b).2.1 := by decide +kernel
theorem zz_to12 : ∀ k, k < 58 → parseFieldDescriptor (zz_T12 k).2.2.1 = some (zz_t12 k) := by decide +kernel
set_option maxRecDepth 200000 in
theorem zz_in0 : ∀ w ∈ u_ws zz_R0 zz_T0 2, w ∈ zz_tb := zz_mem_r [137, 139] rfl (by decide +kernel)
set_option maxRecDepth 200000 in
theorem zz_in1 : ∀ w ∈ u_ws zz_R1 zz_T1 6, w ∈ zz_tb := zz_mem_r [264, 266, 268, 270, 272, 274] rfl (by decide +kernel)
set_option maxRecDepth 200000 in
theorem zz_in2 : ∀ w ∈ u_ws zz_R2 zz_T2 8, w ∈ zz_tb := zz_mem_r [189, 191, 193, 195, 197, 199, 201, 203] rfl (by decide +kernel)
set_option maxRecDepth 200000 in
theorem zz_in3 : ∀ w ∈ u_ws zz_R3 zz_T3 11, w ∈ zz_tb := zz_mem_r [440, 442, 444, 446, 448, 450, 452, 454, 456, 458, 460] rfl (by decide +kernel)
set_option maxRecDepth 200000 in
theorem zz_in4 : ∀ w ∈ u_ws zz_R4 zz_T4 8, w ∈ zz_tb := zz_mem_r [289, 291, 293, 295, 297, 299, 301, 303] rfl (by decide +kernel)
set_option maxRecDepth 200000 in
theorem zz_in5 : ∀ w ∈ u_ws zz_R5 zz_T5 2, w ∈ zz_tb := zz_mem_r [421, 423] rfl (by decide +kernel)
set_option maxRecDepth 200000 in
theorem zz_in6 : ∀ w ∈ u_ws zz_R6 zz_T6 8, w ∈ zz_tb := zz_mem_r [218, 220, 222, 224, 226, 228, 230, 232] rfl (by decide +kernel)
set_option maxRecDepth 200000 in
theorem zz_in7 : ∀ w ∈ u_ws zz_R7 zz_T7 2, w ∈ zz_tb := zz_mem_r [332, 334] rfl (by decide +kernel)
set_option maxRecDepth 200000 in
theorem zz_in8 : ∀ w ∈ u_ws zz_R8 zz_T8 9, w ∈ zz_tb := zz_mem_r [523, 525, 527, 529, 531, 533, 535, 537, 539] rfl (by decide +kernel)
set_option maxRecDepth 200000 in
theorem zz_in9 : ∀ w ∈ u_ws zz_R9 zz_T9 12, w ∈ zz_tb := zz_mem_r [386, 388, 390, 392, 394, 396, 398, 400, 402, 404, 406, 408] rfl (by decide +kernel)
set_option maxRecDepth 200000 in
theorem zz_in10 : ∀ w ∈ u_ws zz_R10 zz_T10 7, w ∈ zz_tb := zz_mem_r [486, 488, 490, 492, 494, 496, 498] rfl (by decide +kernel)
set_option maxRecDepth 200000 in
theorem zz_in11 : ∀ w ∈ u_ws zz_R11 zz_T11 7, w ∈ zz_tb := zz_mem_r [552, 554, 556, 558, 560, 562, 564] rfl (by decide +kernel)
set_option maxRecDepth 200000 in
theorem zz_in12 : ∀ w ∈ u_ws zz_R12 zz_T12 58, w ∈ zz_tb := zz_mem_r [1416, 1418, 1420, 1422, 1424, 1426, 1428, 1430, 1432, 1434, 1436, 1438, 1440, 1442, 1444, 1446, 1448, 1450, 1452, 1454, 1456, 1458, 1460, 1462, 1464, 1466, 1468, 1470, 1472, 1474, 1476, 1478, 1480, 1482, 1484, 1486, 1488, 1490, 1492, 1494, 1496, 1498, 1500, 1502, 1504, 1506, 1508, 1510, 1512, 1514, 1516, 1518, 1520, 1522, 1524, 1526, 1528, 1530] rfl (by decide +kernel)
/-! THE PURE MACHINE AND THE REAL ONE: how the memory lies in the heap. -/
def zz_k0 : List (Nat × Nat × Nat) := [(11, 0, 0), (0, 600, 0), (51, 600, 0), (0, 1200, 0), (51, 1200, 0), (6, 0, 0), (2, 0, 0), (50, 60, 0), (50, 60, 0), (50, 60, 0), (50, 41, 0)]
def zz_k3 : List (Nat × Nat × Nat) := [(3, 0, 0), (2, 0, 0), (50, 60, 0), (50, 60, 0), (50, 60, 0), (4, 1890, 60), (1, 1890, 0), (50, 1890, 0), (50, 1890, 0), (50, 1890, 0), (50, 1890, 0), (50, 60, 0), (53, 61, 1009), (54, 61, 1609), (50, 60, 0), (52, 60, 0), (50, 60, 0), (50, 60, 0), (0, 1200, 0), (51, 1200, 0), (0, 1200, 0), (51, 1200, 0)]
def zz_k10 : List (Nat × Nat × Nat) := [(10, 0, 0), (5, 120, 0), (50, 120, 0), (4, 0, 0), (1, 0, 0), (50, 0, 0), (50, 0, 0), (50, 0, 0), (50, 0, 0), (50, 0, 0), (9, 0, 0), (7, 0, 0), (7, 0, 0), (7, 0, 0), (7, 0, 0), (7, 0, 0), (7, 0, 0), (53, 61, 107)]
def zz_k8 : List (Nat × Nat × Nat) := [(8, 0, 0), (50, 6, 0), (50, 6, 0), (50, 6, 0), (4, 0, 0), (1, 0, 0), (50, 0, 0), (50, 0, 0), (50, 0, 0), (50, 0, 0), (50, 0, 0), (53, 7, 107)]
def zz_k12 : List (Nat × Nat × Nat) := [(12, 0, 0), (50, 20000, 0), (50, 20000, 0), (50, 2184, 0), (50, 800, 0), (50, 61, 0), (50, 61, 0), (50, 61, 0), (50, 61, 0), (52, 61, 0), (50, 61, 0), (50, 3904, 0), (50, 61, 0), (51, 600, 0), (50, 5, 0), (50, 40, 0), (50, 40, 0), (50, 40, 0), (50, 41, 0), (50, 20000, 0), (50, 6, 0), (50, 6, 0), (50, 61, 0), (50, 800, 0), (51, 1400, 0), (50, 564, 0)]
/-- the kind of the i-th own cell -/
def zz_K (i : Nat) : Nat × Nat × Nat :=
  if i < 11 then zz_k0.getD i (99, 0, 0)
  else if i < 582 then (if i < 33 then zz_k3.getD (i - 11) (99, 0, 0) else if (i - 33) % 9 = 0 then (9, 0, 0) else if (i - 33) % 9 < 7 then (7, 0, 0) else if (i - 33) % 9 = 7 then (5, 60, 0) else (50, 60, 0))
  else if i < 1027 then (if i < 600 then zz_k10.getD (i - 582) (99, 0, 0) else if (i - 600) % 7 = 0 then (9, 0, 0) else (7, 0, 0))
  else if i < 1088 then (if i < 1039 then zz_k8.getD (i - 1027) (99, 0, 0) else if (i - 1039) % 7 = 0 then (9, 0, 0) else (7, 0, 0))
  else if i < 1089 then (55, 3, 104)
  else if i < 1101 then (if (i - 1089) % 4 = 0 then (2, 0, 0) else (50, 60, 0))
  else zz_k12.getD (i - 1101) (99, 0, 0)
abbrev zz_n : Nat := 1127
/-- what stays the same in a run: launch, first own cell, numbers of classes and slots, array classes, texts -/
abbrev zz_X : Type := Launch × Nat × va_G × (Nat → ClassId) × (Nat → Nat) × (Nat → Nat)
abbrev zz_X.l (X : zz_X) : Launch := X.1
abbrev zz_X.b (X : zz_X) : Nat := X.2.1
abbrev zz_X.D (X : zz_X) : va_G := X.2.2.1
abbrev zz_X.dA (X : zz_X) : Nat → ClassId := X.2.2.2.1
abbrev zz_X.sa (X : zz_X) : Nat → Nat := X.2.2.2.2.1
abbrev zz_X.sv (X : zz_X) : Nat → Nat := X.2.2.2.2.2
abbrev zz_cl : List vw_C := [(zz_R0, zz_T0, 2), (zz_R1, zz_T1, 6), (zz_R2, zz_T2, 8), (zz_R3, zz_T3, 11), (zz_R4, zz_T4, 8), (zz_R5, zz_T5, 2), (zz_R6, zz_T6, 8), (zz_R7, zz_T7, 2), (zz_R8, zz_T8, 9), (zz_R9, zz_T9, 12), (zz_R10, zz_T10, 7), (zz_R11, zz_T11, 7), (zz_R12, zz_T12, 58)]
def zz_tys (X : zz_X) : List (ClassId × FieldType) := [(X.dA 0, .int), (X.dA 1, .byte), (X.dA 2, .boolean), (X.dA 3, .object "TurnQueues$State"), (X.dA 4, .object "TurnQueues$Numbers"), (X.dA 5, .object "TurnQueues$Deeds")]
/-- the region of the own cells -/
def zz_A (X : zz_X) : Nat → Prop := fun q => X.b ≤ q
def zz_nf : Nat → Nat := fun t => match t with
  | 0 => 2
  | 1 => 6
  | 2 => 8
  | 3 => 11
  | 4 => 8
  | 5 => 2
  | 6 => 8
  | 7 => 2
  | 8 => 9
  | 9 => 12
  | 10 => 7
  | 11 => 7
  | 12 => 58
  | _ => 0
def zz_fs (t p q : Nat) (σ : zz_M) (a : Nat) : List Value := (List.range (zz_nf t)).map (fun k => match zz_rf (100 * t + k) p q with
  | some r => .ref (a + r.2.2.2)
  | none => .int (Int32.ofInt (σ.1 (100 * t + k) a)))
def zz_ce (X : zz_X) (σ : zz_M) (a : Nat) (K : Nat × Nat × Nat) : va_E :=
  if K.1 < 50 then .inr (K.1, zz_fs K.1 K.2.1 K.2.2 σ a)
  else if K.1 < 53 then .inl (X.dA (K.1 - 50), K.2.1, .inl (fun i => Int32.ofInt (σ.2 a i)))
  else .inl (X.dA (K.1 - 50), K.2.1, .inr (.inr (.inr (.inr (fun i => some (a + K.2.2 / 100 + K.2.2 % 100 * i))))))
def zz_ws (X : zz_X) (σ : zz_M) : va_W := (List.range zz_n).map (fun i => (X.b + i, zz_ce X σ (X.b + i) (zz_K i)))
/-- the texts -/
def zz_nS : Nat := 37
def zz_tx (i : Nat) : List Nat := match i with
  | 0 => [104, 111, 117, 115, 101]
  | 1 => [108, 97, 119]
  | 2 => [98, 97, 108, 97, 110, 99, 101]
  | 3 => [112, 117, 116]
  | 4 => [116, 97, 107, 101]
  | 5 => [102, 111, 114, 101]
  | 6 => [108, 97, 115, 116]
  | 7 => [102]
  | 8 => [124, 98]
  | 9 => [124, 116, 117, 114, 110, 105, 110, 103, 32]
  | 10 => [124, 97]
  | 11 => [124, 99]
  | 12 => [124, 100]
  | 13 => [124, 101]
  | 14 => [124, 106, 111, 105, 110, 105, 110, 103, 32]
  | 15 => [124, 105, 100, 108, 101]
  | 16 => [124, 111, 119, 101, 115, 32]
  | 17 => [32]
  | 18 => [104, 111, 117, 115, 101]
  | 19 => [108, 97, 119]
  | 20 => [98, 97, 108, 97, 110, 99, 101]
  | 21 => [112, 117, 116]
  | 22 => [116, 97, 107, 101]
  | 23 => [102, 111, 114, 101]
  | 24 => [108, 97, 115, 116]
  | 25 => [102]
  | 26 => [32]
  | 27 => [45]
  | 28 => [124, 98]
  | 29 => [124, 105, 100, 108, 101]
  | 30 => [124, 116, 117, 114, 110, 105, 110, 103, 32]
  | 31 => [124, 106, 111, 105, 110, 105, 110, 103, 32]
  | 32 => [124, 97]
  | 33 => [124, 99]
  | 34 => [124, 100]
  | 35 => [124, 101]
  | 36 => [124, 111, 119, 101, 115, 32]
  | _ => []
def zz_sr : List (String × Nat × String) := [("TurnQueues$Reader", 54, "house"), ("TurnQueues$Reader", 60, "law"), ("TurnQueues$Reader", 68, "balance"), ("TurnQueues$Reader", 103, "put"), ("TurnQueues$Reader", 109, "take"), ("TurnQueues$Reader", 111, "fore"), ("TurnQueues$Reader", 113, "last"), ("TurnQueues$History", 198, "f"), ("TurnQueues$History", 208, "|b"), ("TurnQueues$History", 234, "|turning "), ("TurnQueues$History", 239, "|a"), ("TurnQueues$History", 244, "|c"), ("TurnQueues$History", 249, "|d"), ("TurnQueues$History", 254, "|e"), ("TurnQueues$History", 259, "|joining "), ("TurnQueues$History", 261, "|idle"), ("TurnQueues$History", 217, "|owes "), ("TurnQueues$History", 226, " "), ("TurnQueuesModel", 273, "house"), ("TurnQueuesModel", 275, "law"), ("TurnQueuesModel", 280, "balance"), ("TurnQueuesModel", 256, "put"), ("TurnQueuesModel", 258, "take"), ("TurnQueuesModel", 263, "fore"), ("TurnQueuesModel", 265, "last"), ("TurnQueuesModel", 453, "f"), ("TurnQueuesModel", 433, " "), ("TurnQueuesModel", 421, "-"), ("TurnQueuesModel", 455, "|b"), ("TurnQueuesModel", 435, "|idle"), ("TurnQueuesModel", 437, "|turning "), ("TurnQueuesModel", 439, "|joining "), ("TurnQueuesModel", 441, "|a"), ("TurnQueuesModel", 447, "|c"), ("TurnQueuesModel", 449, "|d"), ("TurnQueuesModel", 451, "|e"), ("TurnQueuesModel", 460, "|owes ")]
def zz_S (X : zz_X) (U : State) (H : Heap) : Prop := ∀ i, i < zz_nS → va_O "java/lang/String" (X.sa i) (zz_A X) U H ∧ va_OF "java/lang/String" "coder" "B" (.int 0) (X.sa i) (zz_A X) U H ∧ va_OF "java/lang/String" "value" "[B" (.ref (X.sv i)) (X.sa i) (zz_A X) U H ∧ va_T .byte (X.sv i) (zz_tx i).length (fun j => .int (nI ((zz_tx i).getD j 0))) (zz_A X) U H
def zz_ml : List MethodName := [⟨"TurnQueues$Bytes", "<init>", "(I)V"⟩, ⟨"TurnQueues$Bytes", "add", "(I)V"⟩, ⟨"TurnQueues$Bytes", "addFour", "(I)V"⟩, ⟨"TurnQueues$Bytes", "addWord", "(Ljava/lang/String;)V"⟩, ⟨"TurnQueues$Bytes", "addNumber", "(I)V"⟩, ⟨"TurnQueues$Bytes", "byteAt", "(I)I"⟩, ⟨"TurnQueues$Bytes", "equalTo", "(LTurnQueues$Bytes;)Z"⟩, ⟨"TurnQueues$Cells", "<init>", "(I)V"⟩, ⟨"TurnQueues$Cells", "numberOf", "(I)I"⟩, ⟨"TurnQueues$Cells", "makerOf", "(I)I"⟩, ⟨"TurnQueues$Cells", "behind", "(I)I"⟩, ⟨"TurnQueues$Cells", "add", "(LTurnQueues$Row;II)V"⟩, ⟨"TurnQueues$Cells", "dropFirst", "(LTurnQueues$Row;)V"⟩, ⟨"TurnQueues$Cells", "cellIn", "(LTurnQueues$Row;I)I"⟩, ⟨"TurnQueues$Cells", "unmarkAll", "()V"⟩, ⟨"TurnQueues$Cells", "markState", "(LTurnQueues$State;I)I"⟩, ⟨"TurnQueues$Cells", "markRow", "(LTurnQueues$Row;I)I"⟩, ⟨"TurnQueues$Deeds", "<init>", "()V"⟩, ⟨"TurnQueues$Deeds", "clear", "()V"⟩, ⟨"TurnQueues$Deeds", "become", "(LTurnQueues$Deeds;)V"⟩, ⟨"TurnQueues$Deeds", "add", "(III)V"⟩, ⟨"TurnQueues$Deeds", "versions", "()I"⟩, ⟨"TurnQueues$Deeds", "lines", "()I"⟩, ⟨"TurnQueues$Deeds", "acts", "()I"⟩, ⟨"TurnQueues$Deeds", "hasVersion", "(I)Z"⟩, ⟨"TurnQueues$Deeds", "hasDeed", "(I)Z"⟩, ⟨"TurnQueues$Deeds", "baseOf", "(I)I"⟩, ⟨"TurnQueues$Deeds", "depth", "(I)I"⟩, ⟨"TurnQueues$Deeds", "meeting", "(II)I"⟩, ⟨"TurnQueues$Deeds", "madeOf", "(I)I"⟩, ⟨"TurnQueues$Deeds", "lawRefusal", "(I)I"⟩, ⟨"TurnQueues$History", "<init>", "()V"⟩, ⟨"TurnQueues$History", "become", "(LTurnQueues$Deeds;)V"⟩, ⟨"TurnQueues$History", "enact", "(I)V"⟩, ⟨"TurnQueues$History", "stateOf", "(I)LTurnQueues$State;"⟩, ⟨"TurnQueues$History", "queueOf", "(I)LTurnQueues$Numbers;"⟩, ⟨"TurnQueues$History", "rowOf", "(II)LTurnQueues$Row;"⟩, ⟨"TurnQueues$History", "hasAll", "(III)Z"⟩, ⟨"TurnQueues$History", "actPutting", "(III)I"⟩, ⟨"TurnQueues$History", "actTaking", "(II)I"⟩, ⟨"TurnQueues$History", "actAlongWay", "(II)I"⟩, ⟨"TurnQueues$History", "cutTo", "(I)V"⟩, ⟨"TurnQueues$History", "findWay", "(II)I"⟩, ⟨"TurnQueues$History", "wayDeed", "(I)I"⟩, ⟨"TurnQueues$History", "stepsOnWay", "(I)I"⟩, ⟨"TurnQueues$History", "mostOnWay", "(I)I"⟩, ⟨"TurnQueues$History", "stepsOf", "(I)I"⟩, ⟨"TurnQueues$History", "stepsOfAll", "()I"⟩, ⟨"TurnQueues$History", "dearestDeed", "()I"⟩, ⟨"TurnQueues$History", "overdueDeeds", "()I"⟩, ⟨"TurnQueues$History", "heldByAll", "()I"⟩, ⟨"TurnQueues$History", "heldBySet", "(J)I"⟩, ⟨"TurnQueues$History", "leastEqual", "(I)I"⟩, ⟨"TurnQueues$History", "leastToldAlike", "(I)I"⟩, ⟨"TurnQueues$History", "write", "(ILTurnQueues$Bytes;)V"⟩, ⟨"TurnQueues$History", "writeTurn", "(LTurnQueues$Bytes;LTurnQueues$State;)V"⟩, ⟨"TurnQueues$History", "writeCount", "(LTurnQueues$Bytes;Ljava/lang/String;I)V"⟩, ⟨"TurnQueues$History", "writeRow", "(LTurnQueues$Bytes;Ljava/lang/String;LTurnQueues$Row;)V"⟩, ⟨"TurnQueues$Mill", "<init>", "(II)V"⟩, ⟨"TurnQueues$Mill", "obey", "(II)V"⟩, ⟨"TurnQueues$Mill", "perform", "(LTurnQueues$State;III)I"⟩, ⟨"TurnQueues$Mill", "change", "(LTurnQueues$State;II)V"⟩, ⟨"TurnQueues$Mill", "move", "(LTurnQueues$Row;LTurnQueues$Row;)V"⟩, ⟨"TurnQueues$Mill", "turnAtOnce", "(LTurnQueues$State;)V"⟩, ⟨"TurnQueues$Mill", "disown", "(LTurnQueues$State;)V"⟩, ⟨"TurnQueues$Mill", "turnBySteps", "(LTurnQueues$State;)V"⟩, ⟨"TurnQueues$Mill", "beginTurning", "(LTurnQueues$State;)V"⟩, ⟨"TurnQueues$Mill", "turnOnce", "(LTurnQueues$State;)V"⟩, ⟨"TurnQueues$Mill", "even", "(LTurnQueues$State;I)V"⟩, ⟨"TurnQueues$Mill", "split", "(LTurnQueues$State;LTurnQueues$Row;LTurnQueues$Row;)V"⟩, ⟨"TurnQueues$Mill", "lay", "(LTurnQueues$Row;II)V"⟩, ⟨"TurnQueues$Mill", "laidAt", "(I)I"⟩, ⟨"TurnQueues$Numbers", "<init>", "(I)V"⟩, ⟨"TurnQueues$Numbers", "become", "(LTurnQueues$Numbers;)V"⟩, ⟨"TurnQueues$Numbers", "numberAt", "(I)I"⟩, ⟨"TurnQueues$Numbers", "change", "(II)I"⟩, ⟨"TurnQueues$Numbers", "insert", "(II)V"⟩, ⟨"TurnQueues$Numbers", "remove", "(I)I"⟩, ⟨"TurnQueues$Numbers", "equalTo", "(LTurnQueues$Numbers;)Z"⟩, ⟨"TurnQueues$Reader", "<init>", "()V"⟩, ⟨"TurnQueues$Reader", "readText", "(LTurnQueues$Bytes;)Z"⟩, ⟨"TurnQueues$Reader", "readHouseLine", "(LTurnQueues$Bytes;)V"⟩, ⟨"TurnQueues$Reader", "readDeedLine", "(LTurnQueues$Bytes;)V"⟩, ⟨"TurnQueues$Reader", "expectVersion", "(LTurnQueues$Bytes;Z)I"⟩, ⟨"TurnQueues$Reader", "kindOfWord", "(LTurnQueues$Bytes;)I"⟩, ⟨"TurnQueues$Reader", "refuse", "(I)V"⟩, ⟨"TurnQueues$Reader", "expectWord", "(LTurnQueues$Bytes;Ljava/lang/String;)V"⟩, ⟨"TurnQueues$Reader", "expectSign", "(LTurnQueues$Bytes;)V"⟩, ⟨"TurnQueues$Reader", "expectNumber", "(LTurnQueues$Bytes;II)I"⟩, ⟨"TurnQueues$Reader", "isWord", "(LTurnQueues$Bytes;Ljava/lang/String;)Z"⟩, ⟨"TurnQueues$Reader", "step", "(LTurnQueues$Bytes;)V"⟩, ⟨"TurnQueues$Reader", "readWord", "(LTurnQueues$Bytes;)V"⟩, ⟨"TurnQueues$Reader", "readNumber", "(LTurnQueues$Bytes;)V"⟩, ⟨"TurnQueues$Reader", "isBlank", "(I)Z"⟩, ⟨"TurnQueues$Reader", "isLetter", "(I)Z"⟩, ⟨"TurnQueues$Reader", "isDigit", "(I)Z"⟩, ⟨"TurnQueues$Row", "<init>", "()V"⟩, ⟨"TurnQueues$Row", "become", "(LTurnQueues$Row;)V"⟩, ⟨"TurnQueues$Row", "clear", "()V"⟩, ⟨"TurnQueues$Scout", "<init>", "()V"⟩, ⟨"TurnQueues$Scout", "tryAll", "(LTurnQueues$Deeds;LTurnQueues$State;I)V"⟩, ⟨"TurnQueues$Scout", "tryFrom", "(LTurnQueues$Scout;II)V"⟩, ⟨"TurnQueues$Scout", "noteDeed", "(III)V"⟩, ⟨"TurnQueues$Scout", "noteRow", "(I)V"⟩, ⟨"TurnQueues$Scout", "worstKind", "(I)I"⟩, ⟨"TurnQueues$Scout", "fewestFor", "(I)I"⟩, ⟨"TurnQueues$State", "<init>", "()V"⟩, ⟨"TurnQueues$State", "clearTurn", "()V"⟩, ⟨"TurnQueues$State", "become", "(LTurnQueues$State;)V"⟩, ⟨"TurnQueues$State", "isAtRest", "()Z"⟩, ⟨"TurnQueues$State", "rowNumbered", "(I)LTurnQueues$Row;"⟩, ⟨"TurnQueues$Trial", "<init>", "()V"⟩, ⟨"TurnQueues$Trial", "begin", "(LTurnQueues$Deeds;LTurnQueues$State;)V"⟩, ⟨"TurnQueues$Trial", "stepsOfAll", "(LTurnQueues$Deeds;II)I"⟩, ⟨"TurnQueues$Trial", "cheapestRatio", "(LTurnQueues$Deeds;)I"⟩, ⟨"TurnQueues$Trial", "putsTillTurned", "(LTurnQueues$Deeds;LTurnQueues$State;)I"⟩, ⟨"TurnQueues$Trial", "putsTillAtRest", "(LTurnQueues$Deeds;LTurnQueues$State;)I"⟩, ⟨"TurnQueues$Trial", "stepsToDrain", "(LTurnQueues$Deeds;LTurnQueues$State;)I"⟩, ⟨"TurnQueues$Trial", "stepsOfLetters", "(LTurnQueues$Deeds;LTurnQueues$State;LTurnQueues$Bytes;)I"⟩, ⟨"TurnQueues$Trial", "kindOfLetter", "(II)I"⟩, ⟨"TurnQueues$Trial", "graftWay", "(LTurnQueues$History;III)I"⟩, ⟨"TurnQueues$Trial", "graftDeed", "(LTurnQueues$Deeds;I)V"⟩, ⟨"TurnQueues", "<init>", "()V"⟩, ⟨"TurnQueues", "feed", "(IIIII)I"⟩, ⟨"TurnQueues", "end", "(I)I"⟩, ⟨"TurnQueues", "house", "()I"⟩, ⟨"TurnQueues", "fault", "(I)I"⟩, ⟨"TurnQueues", "count", "(I)I"⟩, ⟨"TurnQueues", "version", "(II)I"⟩, ⟨"TurnQueues", "size", "(I)I"⟩, ⟨"TurnQueues", "at", "(II)I"⟩, ⟨"TurnQueues", "first", "(I)I"⟩, ⟨"TurnQueues", "tail", "(I)I"⟩, ⟨"TurnQueues", "like", "(I)I"⟩, ⟨"TurnQueues", "forks", "(I)I"⟩, ⟨"TurnQueues", "meet", "(II)I"⟩, ⟨"TurnQueues", "apart", "(II)I"⟩, ⟨"TurnQueues", "state", "(II)I"⟩, ⟨"TurnQueues", "row", "(II)I"⟩, ⟨"TurnQueues", "cell", "(III)I"⟩, ⟨"TurnQueues", "twin", "(I)I"⟩, ⟨"TurnQueues", "path", "(II)I"⟩, ⟨"TurnQueues", "along", "(II)I"⟩, ⟨"TurnQueues", "origin", "(III)I"⟩, ⟨"TurnQueues", "from", "(II)I"⟩, ⟨"TurnQueues", "lost", "()I"⟩, ⟨"TurnQueues", "holds", "(I)I"⟩, ⟨"TurnQueues", "shares", "(II)I"⟩, ⟨"TurnQueues", "held", "(J)I"⟩, ⟨"TurnQueues", "made", "()I"⟩, ⟨"TurnQueues", "spent", "(I)I"⟩, ⟨"TurnQueues", "ledger", "()I"⟩, ⟨"TurnQueues", "dearest", "()I"⟩, ⟨"TurnQueues", "overdue", "()I"⟩, ⟨"TurnQueues", "by", "(I)I"⟩, ⟨"TurnQueues", "peak", "(I)I"⟩, ⟨"TurnQueues", "balanced", "(I)I"⟩, ⟨"TurnQueues", "balance", "()I"⟩, ⟨"TurnQueues", "until", "(I)I"⟩, ⟨"TurnQueues", "rest", "(I)I"⟩, ⟨"TurnQueues", "worst", "(III)I"⟩, ⟨"TurnQueues", "worstAt", "(III)I"⟩, ⟨"TurnQueues", "spike", "(II)I"⟩, ⟨"TurnQueues", "drain", "(I)I"⟩, ⟨"TurnQueues", "tell", "(I)I"⟩, ⟨"TurnQueues", "octet", "(I)I"⟩, ⟨"TurnQueues", "walk", "(I)I"⟩, ⟨"TurnQueues", "grafting", "(IIII)I"⟩, ⟨"TurnQueues", "grafted", "(IIII)I"⟩, ⟨"TurnQueues", "graft", "(III)I"⟩, ⟨"TurnQueues", "image", "(I)I"⟩, ⟨"TurnQueues", "back", "(I)I"⟩, ⟨"TurnQueues", "put", "(II)I"⟩, ⟨"TurnQueues", "take", "(I)I"⟩, ⟨"TurnQueues", "fore", "(II)I"⟩, ⟨"TurnQueues", "last", "(I)I"⟩, ⟨"TurnQueues", "undo", "()I"⟩, ⟨"TurnQueues", "anew", "()I"⟩, ⟨"TurnQueues", "isPutting", "(I)Z"⟩, ⟨"TurnQueuesModel", "<init>", "()V"⟩, ⟨"TurnQueuesModel", "in", "(JJJ)Z"⟩, ⟨"TurnQueuesModel", "ahead", "(II)I"⟩, ⟨"TurnQueuesModel", "lengthOf", "(I)I"⟩, ⟨"TurnQueuesModel", "of", "(II)I"⟩, ⟨"TurnQueuesModel", "sets", "(III)V"⟩, ⟨"TurnQueuesModel", "empties", "(I)V"⟩, ⟨"TurnQueuesModel", "copies", "(II)V"⟩, ⟨"TurnQueuesModel", "pushes", "(III)V"⟩, ⟨"TurnQueuesModel", "pops", "(II)I"⟩, ⟨"TurnQueuesModel", "deeds", "(IIII)I"⟩, ⟨"TurnQueuesModel", "turnsAll", "(I)V"⟩, ⟨"TurnQueuesModel", "goesOn", "(IZ)V"⟩, ⟨"TurnQueuesModel", "takenBy", "(I)V"⟩, ⟨"TurnQueuesModel", "becomesReady", "(I)V"⟩, ⟨"TurnQueuesModel", "begins", "(II)V"⟩, ⟨"TurnQueuesModel", "turns", "(I)V"⟩, ⟨"TurnQueuesModel", "evens", "(II)V"⟩, ⟨"TurnQueuesModel", "evensBy", "(III)V"⟩, ⟨"TurnQueuesModel", "asked", "(II)I"⟩, ⟨"TurnQueuesModel", "laysQueue", "(IIII)V"⟩, ⟨"TurnQueuesModel", "makes", "(III)I"⟩, ⟨"TurnQueuesModel", "beginsHouse", "()V"⟩, ⟨"TurnQueuesModel", "feed", "(IIIII)I"⟩, ⟨"TurnQueuesModel", "end", "(I)I"⟩, ⟨"TurnQueuesModel", "see", "(I)I"⟩, ⟨"TurnQueuesModel", "advance", "()V"⟩, ⟨"TurnQueuesModel", "good", "()Z"⟩, ⟨"TurnQueuesModel", "errs", "(I)V"⟩, ⟨"TurnQueuesModel", "is", "(Ljava/lang/String;)Z"⟩, ⟨"TurnQueuesModel", "takes", "(II)I"⟩, ⟨"TurnQueuesModel", "told", "(Ljava/lang/String;II)I"⟩, ⟨"TurnQueuesModel", "fault", "(I)I"⟩, ⟨"TurnQueuesModel", "kindHere", "()I"⟩, ⟨"TurnQueuesModel", "readDeed", "()V"⟩, ⟨"TurnQueuesModel", "house", "()I"⟩, ⟨"TurnQueuesModel", "isHouse", "()Z"⟩, ⟨"TurnQueuesModel", "isVersion", "(I)Z"⟩, ⟨"TurnQueuesModel", "deedMany", "()I"⟩, ⟨"TurnQueuesModel", "count", "(I)I"⟩, ⟨"TurnQueuesModel", "version", "(II)I"⟩, ⟨"TurnQueuesModel", "size", "(I)I"⟩, ⟨"TurnQueuesModel", "at", "(II)I"⟩, ⟨"TurnQueuesModel", "first", "(I)I"⟩, ⟨"TurnQueuesModel", "tail", "(I)I"⟩, ⟨"TurnQueuesModel", "areLike", "(II)Z"⟩, ⟨"TurnQueuesModel", "like", "(I)I"⟩, ⟨"TurnQueuesModel", "forks", "(I)I"⟩, ⟨"TurnQueuesModel", "meetOf", "(II)I"⟩, ⟨"TurnQueuesModel", "meet", "(II)I"⟩, ⟨"TurnQueuesModel", "apart", "(II)I"⟩, ⟨"TurnQueuesModel", "areLikeRows", "(III)Z"⟩, ⟨"TurnQueuesModel", "areTwins", "(II)Z"⟩, ⟨"TurnQueuesModel", "twin", "(I)I"⟩, ⟨"TurnQueuesModel", "deepOf", "(I)I"⟩, ⟨"TurnQueuesModel", "path", "(II)I"⟩, ⟨"TurnQueuesModel", "along", "(II)I"⟩, ⟨"TurnQueuesModel", "deedOf", "(I)I"⟩, ⟨"TurnQueuesModel", "origin", "(III)I"⟩, ⟨"TurnQueuesModel", "from", "(II)I"⟩, ⟨"TurnQueuesModel", "lost", "()I"⟩, ⟨"TurnQueuesModel", "state", "(II)I"⟩, ⟨"TurnQueuesModel", "row", "(II)I"⟩, ⟨"TurnQueuesModel", "cell", "(III)I"⟩, ⟨"TurnQueuesModel", "forgets", "()V"⟩, ⟨"TurnQueuesModel", "marks", "(II)V"⟩, ⟨"TurnQueuesModel", "marked", "(I)I"⟩, ⟨"TurnQueuesModel", "holds", "(I)I"⟩, ⟨"TurnQueuesModel", "shares", "(II)I"⟩, ⟨"TurnQueuesModel", "held", "(J)I"⟩, ⟨"TurnQueuesModel", "made", "()I"⟩, ⟨"TurnQueuesModel", "spent", "(I)I"⟩, ⟨"TurnQueuesModel", "ledger", "()I"⟩, ⟨"TurnQueuesModel", "dearest", "()I"⟩, ⟨"TurnQueuesModel", "overdue", "()I"⟩, ⟨"TurnQueuesModel", "replays", "(II)I"⟩, ⟨"TurnQueuesModel", "isTwoSided", "()Z"⟩, ⟨"TurnQueuesModel", "asksLaw", "(I)I"⟩, ⟨"TurnQueuesModel", "by", "(I)I"⟩, ⟨"TurnQueuesModel", "peak", "(I)I"⟩, ⟨"TurnQueuesModel", "balanced", "(I)I"⟩, ⟨"TurnQueuesModel", "balance", "()I"⟩, ⟨"TurnQueuesModel", "until", "(I)I"⟩, ⟨"TurnQueuesModel", "isAtRest", "(I)Z"⟩, ⟨"TurnQueuesModel", "rest", "(I)I"⟩, ⟨"TurnQueuesModel", "goes", "(III)V"⟩, ⟨"TurnQueuesModel", "goesAll", "(II)V"⟩, ⟨"TurnQueuesModel", "worstAt", "(III)I"⟩, ⟨"TurnQueuesModel", "spike", "(II)I"⟩, ⟨"TurnQueuesModel", "worst", "(III)I"⟩, ⟨"TurnQueuesModel", "drain", "(I)I"⟩, ⟨"TurnQueuesModel", "laysWay", "(II)Z"⟩, ⟨"TurnQueuesModel", "takesOut", "(I)V"⟩, ⟨"TurnQueuesModel", "putsIn", "(II)V"⟩, ⟨"TurnQueuesModel", "grafts", "(I)I"⟩, ⟨"TurnQueuesModel", "areThree", "(III)Z"⟩, ⟨"TurnQueuesModel", "grafting", "(IIII)I"⟩, ⟨"TurnQueuesModel", "grafted", "(IIII)I"⟩, ⟨"TurnQueuesModel", "graft", "(III)I"⟩, ⟨"TurnQueuesModel", "tells", "(Ljava/lang/String;)V"⟩, ⟨"TurnQueuesModel", "tellsNumber", "(I)V"⟩, ⟨"TurnQueuesModel", "tellsRow", "(Ljava/lang/String;I)V"⟩, ⟨"TurnQueuesModel", "tellsState", "(I)V"⟩, ⟨"TurnQueuesModel", "tell", "(I)I"⟩, ⟨"TurnQueuesModel", "octet", "(I)I"⟩, ⟨"TurnQueuesModel", "kindBy", "(I)I"⟩, ⟨"TurnQueuesModel", "walks", "(II)I"⟩, ⟨"TurnQueuesModel", "walk", "(I)I"⟩, ⟨"TurnQueuesModel", "isFull", "()Z"⟩, ⟨"TurnQueuesModel", "put", "(II)I"⟩, ⟨"TurnQueuesModel", "take", "(I)I"⟩, ⟨"TurnQueuesModel", "fore", "(II)I"⟩, ⟨"TurnQueuesModel", "last", "(I)I"⟩, ⟨"TurnQueuesModel", "image", "(I)I"⟩, ⟨"TurnQueuesModel", "back", "(I)I"⟩, ⟨"TurnQueuesModel", "takesBack", "()V"⟩, ⟨"TurnQueuesModel", "undo", "()I"⟩, ⟨"TurnQueuesModel", "anew", "()I"⟩, ⟨"java/lang/String", "length", "()I"⟩, ⟨"java/lang/String", "charAt", "(I)C"⟩, ⟨"java/lang/Math", "max", "(II)I"⟩, ⟨"java/lang/Math", "min", "(II)I"⟩, ⟨"java/lang/Math", "abs", "(I)I"⟩]
def zz_mn (n : Nat) : MethodName := zz_ml.getD n ⟨"", "", ""⟩
/-- the static methods that a nest mate calls -/
def zz_nl : List (String × Nat × MethodName) := [("TurnQueues$Reader", 84, ⟨"TurnQueues", "isPutting", "(I)Z"⟩), ("TurnQueues$Mill", 61, ⟨"TurnQueues", "isPutting", "(I)Z"⟩), ("TurnQueues$Trial", 117, ⟨"TurnQueues", "isPutting", "(I)Z"⟩)]
def zz_SR (X : zz_X) (U : State) : Prop := (∀ (i : Nat) (q : String × Nat × String), zz_sr[i]? = some q → vk_R q.1 q.2.1 q.2.2 (X.sa i) U) ∧ ∀ (i : Nat) (q : String × Nat × MethodName), zz_nl[i]? = some q → va_Nw (.methodLinkNest q.1 q.2.1 q.2.2 "TurnQueues") U
/-- what holds around the own cells -/
def zz_E (X : zz_X) (U : State) (H : Heap) : Prop := va_K X.D zz_cl (zz_tys X) U ∧ zz_S X U H ∧ zz_SR X U ∧ va_Z "java/lang/String" "COMPACT_STRINGS" "Z" (.int 1) (zz_A X) U H ∧ va_Zq "jdk/internal/util/Preconditions" "SIOOBE_FORMATTER" "Ljava/util/function/BiFunction;" (zz_A X) U H ∧ X.b ≤ H.size
/-- the memory lies in the heap -/
def zz_R (X : zz_X) (σ : zz_M) (H : Heap) : Prop := va_P X.D zz_cl (zz_ws X σ) H ∧ (∀ f a, zz_in (σ.1 f a)) ∧ (∀ a i, zz_in (σ.2 a i))
def zz_toV (X : zz_X) : zz_V → Value
  | .inl i => .int (Int32.ofInt i)
  | .inr (.inl i) => .long (Int64.ofInt i)
  | .inr (.inr (.inl q)) => .ref q.2.2.2
  | .inr (.inr (.inr 0)) => .null
  | .inr (.inr (.inr 1)) => .null
  | .inr (.inr (.inr (k + 2))) => .ref (X.sa k)
/-- a good value: in range; a cell that is there -/
def zz_ok (X : zz_X) : zz_V → Prop
  | .inl i => zz_in i
  | .inr (.inl i) => zz_inL i
  | .inr (.inr (.inl q)) => ∃ i, i < zz_n ∧ q.2.2.2 = X.b + i ∧ zz_K i = (q.1, q.2.1, q.2.2.1)
  | .inr (.inr (.inr k)) => k < 2 ∨ k - 2 < zz_nS
def zz_lk (X : zz_X) (k : Nat) : Option zz_V → Option (Nat × Value)
  | some (.inr (.inr (.inr 1))) => none
  | some v => some (k, zz_toV X v)
  | none => none
def zz_lv (X : zz_X) (ls : List zz_V) : List (Nat × Value) := (List.range ls.length).filterMap (fun (k : Nat) => zz_lk X k ls[k]?)
end
section
/-! JUDGEMENTS over the pure machine: zz_G (a place in a method comes to its end), zz_T (a method's contract). -/
def zz_len : Instr → Nat
  | .iload_n _ | .lload_n _ | .aload_n _ | .istore_n _ | .astore_n _ | .iconst _ | .lconst _ | .aconst_null | .iadd | .isub | .imul | .idiv | .irem | .iand | .ior | .ishr | .iushr | .i2b | .i2l | .lsub | .land | .lcmp | .lshl | .lshr | .lushr | .dup | .dup2 | .pop | .arraylength | .iaload | .baload | .aaload | .iastore | .bastore | .ireturn | .areturn | .return_ => 1
  | .iload _ | .lload _ | .aload _ | .istore _ | .astore _ | .bipush _ | .ldc _ => 2
  | .sipush _ | .iinc _ _ | .getfield _ | .putfield _ | .ldc_w _ | .ldc2_w _ | .goto _ | .ifCond _ _ | .if_icmp _ _ | .ifnull _ | .ifnonnull _ | .invokevirtual _ | .invokestatic _ => 3
  | _ => 0
def zz_tg (code : List zz_C) (pc : Nat) (off : Int) (t : Nat) : Bool := match code[t]? with
  | some e => decide ((pc : Int) + off = (e.1 : Int))
  | none => false
def zz_end : Instr → Bool
  | .ireturn | .areturn | .return_ | .goto _ => true
  | _ => false
def zz_fT (f : Nat) : String × String × String × Bool := match zz_cl[f / 100]? with
  | some c => c.2.1 (f % 100)
  | none => ("", "", "", false)
/-- what else is asked of a row of code, by its instruction -/
def zz_ck (own : String) (maxL : Nat) (code : List zz_C) (pc len : Nat) (ins : Instr) (ts : List Nat) : Bool := match ins, ts with
  | .goto o, ts => decide (len = 3) && zz_tg code pc o (ts.getD 0 0)
  | .ifCond _ o, ts => decide (len = 3) && zz_tg code pc o (ts.getD 0 0)
  | .if_icmp _ o, ts => decide (len = 3) && zz_tg code pc o (ts.getD 0 0)
  | .ifnull o, ts => decide (len = 3) && zz_tg code pc o (ts.getD 0 0)
  | .ifnonnull o, ts => decide (len = 3) && zz_tg code pc o (ts.getD 0 0)
  | .tableswitch d lo hi offs, ts => decide (hi = lo + offs.size - 1) && decide (ts.length = offs.size + 1) && zz_tg code pc d (ts.getD 0 0) && (List.range offs.size).all (fun k => zz_tg code pc (offs.getD k 0) (ts.getD (k + 1) 0))
  | .lookupswitch d ps, ts => (ps.toList.zip (ps.toList.drop 1)).all (fun (a, next) => decide (a.1 < next.1)) && zz_tg code pc d (ts.getD 0 0) && (List.range ps.size).all (fun k => zz_tg code pc (ps.getD k (0, 0)).2 (ts.getD (k + 1) 0))
  | .iconst n, _ => decide (len = 1) && decide (-10 < n) && decide (n < 10)
  | .bipush n, _ => decide (len = 2) && decide ((Int8.ofInt n).toInt32 = Int32.ofInt n) && decide (-200 < n) && decide (n < 200)
  | .sipush n, _ => decide (len = 3) && decide ((Int16.ofInt n).toInt32 = Int32.ofInt n) && decide (-40000 < n) && decide (n < 40000)
  | .getfield _, ts => decide (len = 3) && decide (ts.getD 0 0 / 100 < 13) && decide (ts.getD 0 0 % 100 < zz_nf (ts.getD 0 0 / 100))
  | .putfield _, ts => decide (len = 3) && decide (ts.getD 0 0 / 100 < 13) && decide (ts.getD 0 0 % 100 < zz_nf (ts.getD 0 0 / 100)) && decide ((zz_fT (ts.getD 0 0)).2.2.2 = false)
  | .iinc k n, _ => decide (len = 3) && decide (k < maxL) && decide (-1000 < n) && decide (n < 1000)
  | .ldc i, ts => decide (len = 2) && (match ts with
    | [0, k] => decide ((zz_sr.getD k ("", 0, "")).1 = own) && decide ((zz_sr.getD k ("", 0, "")).2.1 = i) && decide (k < zz_nS)
    | [1, v] => decide (v < 1000000)
    | _ => false)
  | .ldc_w i, ts => decide (len = 3) && (match ts with
    | [0, k] => decide ((zz_sr.getD k ("", 0, "")).1 = own) && decide ((zz_sr.getD k ("", 0, "")).2.1 = i) && decide (k < zz_nS)
    | [1, v] => decide (v < 1000000)
    | _ => false)
  | .invokestatic i, ts => decide (len = 3) && (match ts with
    | [n, k] => decide (zz_nl[k]? = some (own, i, zz_mn n))
    | _ => true)
  | .ldc2_w _, ts => decide (len = 3) && decide (ts.getD 0 0 < 1000000)
  | ins, _ => decide (len = zz_len ins)
/-- a row of code is what the bytes say; its targets are rows -/
def zz_dc (own : String) (bytes : ByteArray) (maxL : Nat) (code : List zz_C) (e : zz_C) (j : Nat) : Bool :=
  decide (decode bytes e.1 = .ok (e.2.1, e.2.2.1)) &&
  (match code[j + 1]? with
    | some e' => decide (e'.1 = e.1 + e.2.2.1)
    | none => zz_end e.2.1) && zz_ck own maxL code e.1 e.2.2.1 e.2.1 e.2.2.2
/-- the tables' words that a row of code wants -/
def zz_wd (mn : Nat → MethodName) (own : String) (e : zz_C) : List Cond := match e.2.1, e.2.2.2 with
  | .getfield i, f :: _ => [.fieldLink own i (zz_fT f).1 (zz_fT f).2.1 (zz_fT f).2.2.1]
  | .putfield i, f :: _ => [.fieldLink own i (zz_fT f).1 (zz_fT f).2.1 (zz_fT f).2.2.1]
  | .invokevirtual i, n :: _ => [.methodLink own i (mn n)]
  | .invokestatic i, [n] => [.methodLink own i (mn n)]
  | .ldc i, [1, v] => [.constant own i (Int32.ofInt (v : Nat))]
  | .ldc_w i, [1, v] => [.constant own i (Int32.ofInt (v : Nat))]
  | .ldc2_w i, v :: _ => [.constantLong own i (Int64.ofInt (v : Nat))]
  | _, _ => []
def zz_pc (P : zz_P) (j : Nat) : Nat := match P.code[j]? with
  | some e => e.1
  | none => 0
/-- the static ones -/
def zz_isS (n : Nat) : Bool := [93, 94, 95, 101, 119, 178, 180].contains n
def zz_okP (P : zz_P) : Prop := (P.code.zipIdx.all (fun q => zz_dc P.y.cls P.bytes P.maxL P.code q.1 q.2)) = true ∧ ∀ w ∈ P.code.flatMap (zz_wd zz_mn P.y.cls), w ∈ zz_tb
def zz_room (d : Nat) : Room := { frames := d, cells := 0, slots := 0, locals := 40 * d }
def zz_Q (X : zz_X) (Post : Option zz_V → zz_M → Prop) : Array Value → State → Outcome → State → Prop := fun _ st o t => (∃ (r : Option zz_V) (σ : zz_M), o = .returned (r.map (zz_toV X)) ∧ (∀ v, r = some v → zz_ok X v) ∧ Post r σ ∧ zz_R X σ t.heap) ∧ va_F (zz_A X) st t
def zz_G (X : zz_X) (d : Nat) (P : zz_P) (j : Nat) (ls st : List zz_V) (σ : zz_M) (Post : Option zz_V → zz_M → Prop) : Prop :=
  ∀ (p : Program) (e : Env) (s : State) (m : MethodId) (args : Array Value) (below : List Frame) (meth : Method) (c : Code) (H : Heap) (locs : List Loc) (lm : Array Slot),
    zz_okP P → p.tables.exec = Jvm.exec → c.code = P.bytes → c.maxLocals = P.maxL → meth.sig.returnType = P.ret → meth.locks = false → s.vm.findClass P.y.cls = some m.cls → (∀ w ∈ zz_tb, w.before args s = true) → zz_E X s s.heap → va_S (zz_A X) s.heap H locs → zz_R X σ H → lv_has lm P.maxL (zz_lv X ls) → ls.length = P.maxL → (∀ v ∈ ls, zz_ok X v) → (∀ v ∈ st, zz_ok X v) →
    W p X.l e (zz_room d) s m args below meth c H locs 0 0 (MQ below (zz_Q X Post) args s 0 0 (zz_A X)) (F0 m (zz_pc P j) lm (st.map (zz_toV X)))
theorem zw_in (x : Int) : zz_in (zw x) := by
  unfold zz_in zw
  omega
theorem zw_id {x : Int} (h1 : -2147483648 ≤ x) (h2 : x < 2147483648) : zw x = x := by
  unfold zw
  omega
theorem zw_bm (x : Int) : x.bmod (2 ^ 32) = zw x := by
  have e : ((2 ^ 32 : Nat) : Int) = 4294967296 := rfl
  rw [Int.bmod_def, e]
  unfold zw
  split <;> omega
theorem zz_ti (x : Int) : (Int32.ofInt x).toInt = zw x := by
  rw [Int32.toInt_ofInt, zw_bm]
theorem zz_tid {x : Int} (h : zz_in x) : (Int32.ofInt x).toInt = x := by
  rw [zz_ti]
  exact zw_id h.1 h.2
theorem zw_of (x : Int) : Int32.ofInt (zw x) = Int32.ofInt x := by
  rw [← zz_ti, Int32.ofInt_toInt]
theorem zz_i32 (v : Int32) : zz_in v.toInt := ⟨v.le_toInt, v.toInt_lt⟩
theorem zz_b_of (f : Int32 → Int32 → Int32) (x y : Int) : Int32.ofInt (zz_b f x y) = f (Int32.ofInt x) (Int32.ofInt y) := by
  unfold zz_b
  rw [Int32.ofInt_toInt]
theorem zz_l_of (f : Int64 → Int64 → Int64) (x y : Int) : Int64.ofInt (zz_l f x y) = f (Int64.ofInt x) (Int64.ofInt y) := by
  unfold zz_l
  rw [Int64.ofInt_toInt]
theorem zz_i64 (v : Int64) : zz_inL v.toInt := ⟨v.le_toInt, v.toInt_lt⟩
theorem zz_Lbm {x : Int} (h : zz_inL x) : (Int64.ofInt x).toInt = x := by
  obtain ⟨h1, h2⟩ := h
  have e : ((2 ^ 64 : Nat) : Int) = 18446744073709551616 := rfl
  rw [Int64.toInt_ofInt, Int.bmod_def, e]
  split <;> omega
theorem zz_eq0 {x y : Int} (hx : zz_in x) (hy : zz_in y) : Int32.ofInt x = Int32.ofInt y ↔ x = y := by
  rw [← Int32.toInt_inj, zz_tid hx, zz_tid hy]
theorem zz_lt0 {x y : Int} (hx : zz_in x) (hy : zz_in y) : Int32.ofInt x < Int32.ofInt y ↔ x < y := by
  rw [Int32.lt_iff_toInt_lt, zz_tid hx, zz_tid hy]
theorem zz_le0 {x y : Int} (hx : zz_in x) (hy : zz_in y) : Int32.ofInt x ≤ Int32.ofInt y ↔ x ≤ y := by
  rw [Int32.le_iff_toInt_le, zz_tid hx, zz_tid hy]

theorem zz_ws_at (X : zz_X) (σ : zz_M) {i : Nat} (h : i < zz_n) : (zz_ws X σ)[i]? = some (X.b + i, zz_ce X σ (X.b + i) (zz_K i)) := by
  unfold zz_ws
  rw [List.getElem?_map, List.getElem?_range h]
  rfl
theorem zz_ws_D (X : zz_X) (σ : zz_M) : va_D (zz_A X) (zz_ws X σ) := by
  have key : ∀ (k : Nat) (q : Nat × va_E), (zz_ws X σ)[k]? = some q → q.1 = X.b + k := by
    intro k q h
    have hl := (List.getElem?_eq_some_iff.mp h).1
    unfold zz_ws at hl
    rw [List.length_map, List.length_range] at hl
    rw [zz_ws_at X σ hl] at h
    cases h
    rfl
  refine ⟨fun i j p q hp hq e => ?_, fun k q h => ?_⟩
  · rw [key i p hp, key j q hq] at e
    omega
  · show X.b ≤ q.1
    rw [key k q h]
    omega
theorem zz_lv_mem {X : zz_X} {ls : List zz_V} {k : Nat} {v : zz_V} (h : ls[k]? = some v) (hv : v ≠ zU) : (k, zz_toV X v) ∈ zz_lv X ls := by
  refine List.mem_filterMap.mpr ⟨k, List.mem_range.mpr (List.getElem?_eq_some_iff.mp h).1, ?_⟩
  rw [h]
  rcases v with i | i | q | n
  · rfl
  · rfl
  · rfl
  · match n, hv with
    | 0, _ => rfl
    | 1, hv => exact absurd rfl hv
    | n + 2, _ => rfl
theorem zz_lv_of {X : zz_X} {ls : List zz_V} {q : Nat × Value} (h : q ∈ zz_lv X ls) : ∃ v, ls[q.1]? = some v ∧ v ≠ zU ∧ q.2 = zz_toV X v := by
  obtain ⟨k, -, h2⟩ := List.mem_filterMap.mp h
  cases hv : ls[k]? with
  | none => rw [hv] at h2; cases h2
  | some v =>
    rw [hv] at h2
    rcases v with i | i | r | n
    · cases h2; exact ⟨_, hv, (by intro z; cases z), rfl⟩
    · cases h2; exact ⟨_, hv, (by intro z; cases z), rfl⟩
    · cases h2; exact ⟨_, hv, (by intro z; cases z), rfl⟩
    · match n, hv, h2 with
      | 0, hv, h2 => cases h2; exact ⟨_, hv, (by intro z; cases z), rfl⟩
      | 1, hv, h2 => cases h2
      | n + 2, hv, h2 => cases h2; exact ⟨_, hv, (by intro z; cases z), rfl⟩
theorem zz_lv_at {X : zz_X} {lm : Array Slot} {n : Nat} {ls : List zz_V} {k : Nat} {v : zz_V} (hl : lv_has lm n (zz_lv X ls)) (h : ls[k]? = some v) (hv : v ≠ zU) : lm[k]? = some (.val (zz_toV X v)) := hl.2.2 _ (zz_lv_mem h hv)
theorem zz_lv_set {X : zz_X} {lm : Array Slot} {n : Nat} {ls ls' : List zz_V} {k : Nat} {v : zz_V} (hst : zz_st ls k v = some ls') (hl : lv_has lm n ((k, zz_toV X v) :: (zz_lv X ls).filter (fun q => !(q.1 == k) && !(q.1 + 1 == k && q.2.category == 2)))) : lv_has lm n (zz_lv X ls') ∧ ls'.length = ls.length ∧ k < ls.length ∧ ∀ w ∈ ls', w = v ∨ w ∈ ls := by
  have hk : k < ls.length := by
    unfold zz_st at hst
    by_cases h : k < ls.length
    · exact h
    · rw [decide_eq_false h] at hst; cases hst
  have hset : ls' = ls.set k v ∧ ∀ k' i, k = k' + 1 → ls[k']? ≠ some (zL i) := by
    unfold zz_st at hst
    rw [decide_eq_true hk] at hst
    cases k with
    | zero => cases hst; exact ⟨rfl, fun k' i h => by omega⟩
    | succ k =>
      dsimp only at hst
      cases hq : ls[k]? with
      | none =>
        rw [hq] at hst
        cases hst
        exact ⟨rfl, fun k' i h z => by
          have : k' = k := by omega
          subst this
          rw [hq] at z; cases z⟩
      | some w =>
        rw [hq] at hst
        rcases w with i | i | q | m
        · cases hst; exact ⟨rfl, fun k' i h z => by
            have : k' = k := by omega
            subst this
            rw [hq] at z; cases z⟩
        · cases hst
        · cases hst; exact ⟨rfl, fun k' i h z => by
            have : k' = k := by omega
            subst this
            rw [hq] at z; cases z⟩
        · cases hst; exact ⟨rfl, fun k' i h z => by
            have : k' = k := by omega
            subst this
            rw [hq] at z; cases z⟩
  obtain ⟨rfl, hlong⟩ := hset
  refine ⟨⟨hl.1, hl.2.1, fun q hq => hl.2.2 q ?_⟩, by simp, hk, fun w hw => ?_⟩
  · obtain ⟨w, h1, h2, h3⟩ := zz_lv_of hq
    by_cases e : q.1 = k
    · rw [e, List.getElem?_set_self hk] at h1
      cases h1
      rw [show q = (k, zz_toV X v) from Prod.ext e h3]
      exact List.mem_cons_self
    · rw [List.getElem?_set_ne (Ne.symm e)] at h1
      refine List.mem_cons_of_mem _ (List.mem_filter.mpr ⟨?_, ?_⟩)
      · rw [show q = (q.1, zz_toV X w) from Prod.ext rfl h3]
        exact zz_lv_mem h1 h2
      · simp only [Bool.and_eq_true, Bool.not_eq_true', beq_eq_false_iff_ne, Bool.and_eq_false_iff]
        refine ⟨e, ?_⟩
        by_cases e2 : q.1 + 1 = k
        · right
          rw [h3]
          rcases w with i | i | r | m
          · intro z; cases z
          · exact absurd h1 (hlong q.1 i e2.symm)
          · intro z; cases z
          · match m with
            | 0 => intro z; cases z
            | 1 => intro z; cases z
            | m + 2 => intro z; cases z
        · left; exact e2
  · obtain ⟨i, hi, e⟩ := List.mem_iff_getElem.mp hw
    rw [List.getElem_set] at e
    split at e
    · exact Or.inl e.symm
    · right; rw [← e]; exact List.getElem_mem _
end
section
/-! ONE STEP of the pure machine is a step of the real one. -/
theorem zz_fm2 {P : zz_V → Prop} {a b : zz_V} {r : List zz_V} (h : ∀ v ∈ a :: b :: r, P v) : P a ∧ P b ∧ ∀ v ∈ r, P v := by
  obtain ⟨h1, h2⟩ := List.forall_mem_cons.mp h
  obtain ⟨h3, h4⟩ := List.forall_mem_cons.mp h2
  exact ⟨h1, h3, h4⟩
theorem zz_cl_at {t : Nat} (h : t < 13) : ∃ (C : String) (T : u_T) (ty : Nat → FieldType), zz_cl[t]? = some (C, T, zz_nf t) ∧ (∀ w ∈ u_ws C T (zz_nf t), w ∈ zz_tb) ∧ (∀ k, k < zz_nf t → parseFieldDescriptor (T k).2.2.1 = some (ty k)) ∧ (∀ a, a < zz_nf t → ∀ b, b < zz_nf t → a ≠ b → (T a).2.1 ≠ (T b).2.1) := by
  match t, h with
  | 0, _ => exact ⟨zz_R0, zz_T0, zz_t0, rfl, zz_in0, zz_to0, zz_nm0⟩
  | 1, _ => exact ⟨zz_R1, zz_T1, zz_t1, rfl, zz_in1, zz_to1, zz_nm1⟩
  | 2, _ => exact ⟨zz_R2, zz_T2, zz_t2, rfl, zz_in2, zz_to2, zz_nm2⟩
  | 3, _ => exact ⟨zz_R3, zz_T3, zz_t3, rfl, zz_in3, zz_to3, zz_nm3⟩
  | 4, _ => exact ⟨zz_R4, zz_T4, zz_t4, rfl, zz_in4, zz_to4, zz_nm4⟩
  | 5, _ => exact ⟨zz_R5, zz_T5, zz_t5, rfl, zz_in5, zz_to5, zz_nm5⟩
  | 6, _ => exact ⟨zz_R6, zz_T6, zz_t6, rfl, zz_in6, zz_to6, zz_nm6⟩
  | 7, _ => exact ⟨zz_R7, zz_T7, zz_t7, rfl, zz_in7, zz_to7, zz_nm7⟩
  | 8, _ => exact ⟨zz_R8, zz_T8, zz_t8, rfl, zz_in8, zz_to8, zz_nm8⟩
  | 9, _ => exact ⟨zz_R9, zz_T9, zz_t9, rfl, zz_in9, zz_to9, zz_nm9⟩
  | 10, _ => exact ⟨zz_R10, zz_T10, zz_t10, rfl, zz_in10, zz_to10, zz_nm10⟩
  | 11, _ => exact ⟨zz_R11, zz_T11, zz_t11, rfl, zz_in11, zz_to11, zz_nm11⟩
  | 12, _ => exact ⟨zz_R12, zz_T12, zz_t12, rfl, zz_in12, zz_to12, zz_nm12⟩
  | n + 13, h => omega
theorem zz_fT_at {f : Nat} {C : String} {T : u_T} {n : Nat} (h : zz_cl[f / 100]? = some (C, T, n)) : zz_fT f = T (f % 100) := by
  unfold zz_fT
  rw [h]
theorem zz_rf_none_ty {f : Nat} (h : f / 100 < 13) (h2 : f % 100 < zz_nf (f / 100)) : True := trivial
theorem zz_fs_at {t p q : Nat} {σ : zz_M} {a k : Nat} (h : k < zz_nf t) : (zz_fs t p q σ a)[k]? = some (match zz_rf (100 * t + k) p q with
    | some r => .ref (a + r.2.2.2)
    | none => .int (Int32.ofInt (σ.1 (100 * t + k) a))) := by
  unfold zz_fs
  rw [List.getElem?_map, List.getElem?_range h]
  rfl
theorem zz_fs_len (t p q : Nat) (σ : zz_M) (a : Nat) : (zz_fs t p q σ a).length = zz_nf t := by
  unfold zz_fs
  rw [List.length_map, List.length_range]
theorem zz_ce_o {X : zz_X} {σ : zz_M} {a t p q : Nat} (h : t < 13) : zz_ce X σ a (t, p, q) = .inr (t, zz_fs t p q σ a) := by
  unfold zz_ce
  rw [if_pos (by omega)]
theorem zz_fs_sf_ne {t p q : Nat} {σ : zz_M} {f a b : Nat} {v : Int} (h : b ≠ a) : zz_fs t p q (zz_sf σ f a v) b = zz_fs t p q σ b := by
  unfold zz_fs
  refine List.map_congr_left fun k _ => ?_
  have e : (zz_sf σ f a v).1 (100 * t + k) b = σ.1 (100 * t + k) b := by
    unfold zz_sf
    simp [h]
  rw [e]
theorem zz_fs_sf {t p q : Nat} {σ : zz_M} {f a : Nat} {v : Int} (ht : f / 100 = t) (hr : zz_rf f p q = none) : zz_fs t p q (zz_sf σ f a v) a = (zz_fs t p q σ a).set (f % 100) (.int (Int32.ofInt v)) := by
  have hf : 100 * t + f % 100 = f := by omega
  refine List.ext_getElem? fun j => ?_
  by_cases hj : j < zz_nf t
  · by_cases e : j = f % 100
    · subst e
      rw [List.getElem?_set_self (by rw [zz_fs_len]; exact hj), zz_fs_at hj, hf, hr]
      unfold zz_sf
      simp
    · rw [List.getElem?_set_ne (Ne.symm e), zz_fs_at hj, zz_fs_at hj]
      have e2 : (zz_sf σ f a v).1 (100 * t + j) a = σ.1 (100 * t + j) a := by
        unfold zz_sf
        have : 100 * t + j ≠ f := by omega
        simp [this]
      rw [e2]
  · rw [List.getElem?_eq_none (by rw [zz_fs_len]; omega), List.getElem?_eq_none (by rw [List.length_set, zz_fs_len]; omega)]
theorem zz_ws_len (X : zz_X) (σ : zz_M) : (zz_ws X σ).length = zz_n := by
  unfold zz_ws
  rw [List.length_map, List.length_range]
theorem zz_ce_sf_ne {X : zz_X} {σ : zz_M} {f a b : Nat} {v : Int} {K : Nat × Nat × Nat} (h : b ≠ a) : zz_ce X (zz_sf σ f a v) b K = zz_ce X σ b K := by
  unfold zz_ce
  rw [zz_fs_sf_ne h]
  rfl
theorem zz_ws_sf {X : zz_X} {σ : zz_M} {i t p q f : Nat} {v : Int} (hi : i < zz_n) (hK : zz_K i = (t, p, q)) (ht : t < 13) (hf : f / 100 = t) (hr : zz_rf f p q = none) :
    (zz_ws X σ).set i (X.b + i, .inr (t, (zz_fs t p q σ (X.b + i)).set (f % 100) (.int (Int32.ofInt v)))) = zz_ws X (zz_sf σ f (X.b + i) v) := by
  refine List.ext_getElem? fun j => ?_
  by_cases hj : j < zz_n
  · by_cases e : j = i
    · subst e
      rw [List.getElem?_set_self (by rw [zz_ws_len]; exact hj), zz_ws_at X _ hj, hK, zz_ce_o ht, zz_fs_sf hf hr]
    · rw [List.getElem?_set_ne (Ne.symm e), zz_ws_at X _ hj, zz_ws_at X _ hj, zz_ce_sf_ne (by omega)]
  · rw [List.getElem?_eq_none (by rw [List.length_set, zz_ws_len]; omega), List.getElem?_eq_none (by rw [zz_ws_len]; omega)]
theorem zz_i2l {x : Int} (h : zz_in x) : (Int32.ofInt x).toInt64 = Int64.ofInt x := by
  apply Int64.toInt_inj.mp
  have h2 : zz_inL x := by unfold zz_in at h; unfold zz_inL; omega
  rw [Jvm.Kit.i64_of_i32, zz_tid h, zz_Lbm h2]
theorem zz_lcmp_of {x y : Int} (hx : zz_inL x) (hy : zz_inL y) : lg_cmp (Int64.ofInt x) (Int64.ofInt y) = Int32.ofInt (zz_lcmp x y) := by
  have e1 : (Int64.ofInt y < Int64.ofInt x) ↔ y < x := by rw [Int64.lt_iff_toInt_lt, zz_Lbm hx, zz_Lbm hy]
  have e2 : (Int64.ofInt x = Int64.ofInt y) ↔ x = y := by rw [← Int64.toInt_inj, zz_Lbm hx, zz_Lbm hy]
  unfold lg_cmp zz_lcmp
  by_cases h1 : y < x
  · have h2 : ¬ x < y := by omega
    have h3 : ¬ x = y := by omega
    simp [e1, e2, h1, h2, h3]
  · by_cases h2 : x = y
    · subst h2
      simp
    · have h3 : x < y := by omega
      simp [e1, e2, h1, h2, h3]
theorem zz_lcmp_in (x y : Int) : zz_in (zz_lcmp x y) := by
  unfold zz_lcmp zz_in
  split
  · omega
  · split <;> omega
theorem zz_c1_ok {X : zz_X} {v : zz_V} (h : zz_c1 v = true) : (zz_toV X v).category = 1 := by
  rcases v with i | i | q | n
  · rfl
  · cases h
  · rfl
  · match n with
    | 0 => rfl
    | 1 => rfl
    | n + 2 => rfl
theorem zz_okI {X : zz_X} {x : Int} (h : zz_ok X (.inl x)) : zz_in x := h
theorem zz_all1 {P : zz_V → Prop} {a : zz_V} {r : List zz_V} (h1 : P a) (h2 : ∀ v ∈ r, P v) : ∀ v ∈ a :: r, P v := List.forall_mem_cons.mpr ⟨h1, h2⟩
/-- the kinds: what the fields and the places of arrays hold lies there, too -/
def zz_cb (i : Nat) : Bool := (List.range (zz_nf (zz_K i).1)).all (fun k => match zz_rf (100 * (zz_K i).1 + k) (zz_K i).2.1 (zz_K i).2.2 with
  | some r => decide (i + r.2.2.2 < zz_n) && decide (zz_K (i + r.2.2.2) = (r.1, r.2.1, r.2.2.1))
  | none => true)
theorem zz_cb0 : (List.range 150).all (fun i => !decide (i + 0 < zz_n) || zz_cb (i + 0)) = true := by decide +kernel
theorem zz_cb1 : (List.range 150).all (fun i => !decide (i + 150 < zz_n) || zz_cb (i + 150)) = true := by decide +kernel
theorem zz_cb2 : (List.range 150).all (fun i => !decide (i + 300 < zz_n) || zz_cb (i + 300)) = true := by decide +kernel
theorem zz_cb3 : (List.range 150).all (fun i => !decide (i + 450 < zz_n) || zz_cb (i + 450)) = true := by decide +kernel
theorem zz_cb4 : (List.range 150).all (fun i => !decide (i + 600 < zz_n) || zz_cb (i + 600)) = true := by decide +kernel
theorem zz_cb5 : (List.range 150).all (fun i => !decide (i + 750 < zz_n) || zz_cb (i + 750)) = true := by decide +kernel
theorem zz_cb6 : (List.range 150).all (fun i => !decide (i + 900 < zz_n) || zz_cb (i + 900)) = true := by decide +kernel
theorem zz_cb7 : (List.range 150).all (fun i => !decide (i + 1050 < zz_n) || zz_cb (i + 1050)) = true := by decide +kernel
theorem zz_cb_at {i : Nat} (hi : i < zz_n) : zz_cb i = true := by
  have key : ∀ (c : Nat), (List.range 150).all (fun i => !decide (i + c < zz_n) || zz_cb (i + c)) = true → c ≤ i → i < c + 150 → zz_cb i = true := by
    intro c h h1 h2
    have h3 := List.all_eq_true.mp h (i - c) (List.mem_range.mpr (by omega))
    have e : i - c + c = i := by omega
    rw [e] at h3
    simpa [hi] using h3
  have hi2 : i < 1127 := hi
  by_cases h0 : i < 150
  · exact key 0 zz_cb0 (by omega) (by omega)
  by_cases h1 : i < 300
  · exact key 150 zz_cb1 (by omega) (by omega)
  by_cases h2 : i < 450
  · exact key 300 zz_cb2 (by omega) (by omega)
  by_cases h3 : i < 600
  · exact key 450 zz_cb3 (by omega) (by omega)
  by_cases h4 : i < 750
  · exact key 600 zz_cb4 (by omega) (by omega)
  by_cases h5 : i < 900
  · exact key 750 zz_cb5 (by omega) (by omega)
  by_cases h6 : i < 1050
  · exact key 900 zz_cb6 (by omega) (by omega)
  exact key 1050 zz_cb7 (by omega) (by omega)
theorem zz_kinds_b : (List.range zz_n).all (fun i => (decide ((zz_K i).1 < 13) || (decide (50 ≤ (zz_K i).1) && decide ((zz_K i).1 < 56))) && decide ((zz_K i).2.1 < 100000)) = true := by decide +kernel
theorem zz_field_b : (List.range 13).all (fun t => (List.range (zz_nf t)).all (fun k => (zz_rf (100 * t + k) 0 0).isSome || decide (parseFieldDescriptor (zz_fT (100 * t + k)).2.2.1 = some (if zz_isZ (100 * t + k) = true then .boolean else .int)))) = true := by decide +kernel
theorem zz_rf_none {f p q : Nat} (h : zz_rf f p q = none) : zz_rf f 0 0 = none := by
  unfold zz_rf at h ⊢
  split at h <;> first | (cases h; done) | rfl
theorem zz_closed {i f t p q : Nat} {r : Nat × Nat × Nat × Nat} (hi : i < zz_n) (hK : zz_K i = (t, p, q)) (hf : f / 100 = t) (hk : f % 100 < zz_nf t) (hr : zz_rf f p q = some r) : i + r.2.2.2 < zz_n ∧ zz_K (i + r.2.2.2) = (r.1, r.2.1, r.2.2.1) := by
  have h1 := zz_cb_at hi
  unfold zz_cb at h1
  rw [hK] at h1
  have h2 := List.all_eq_true.mp h1 (f % 100) (List.mem_range.mpr hk)
  have e : 100 * t + f % 100 = f := by omega
  dsimp only at h2
  rw [e, hr] at h2
  simpa using h2
theorem zz_kindsOk {i t p q : Nat} (hi : i < zz_n) (hK : zz_K i = (t, p, q)) : (t < 13 ∨ (50 ≤ t ∧ t < 56)) ∧ p < 100000 := by
  have h1 := List.all_eq_true.mp zz_kinds_b i (List.mem_range.mpr hi)
  rw [hK] at h1
  simpa using h1
theorem zz_fieldTy {f : Nat} {p q : Nat} (h13 : f / 100 < 13) (hk : f % 100 < zz_nf (f / 100)) (hr : zz_rf f p q = none) : parseFieldDescriptor (zz_fT f).2.2.1 = some (if zz_isZ f = true then .boolean else .int) := by
  have h1 := List.all_eq_true.mp zz_field_b (f / 100) (List.mem_range.mpr h13)
  have h2 := List.all_eq_true.mp h1 (f % 100) (List.mem_range.mpr hk)
  have e : 100 * (f / 100) + f % 100 = f := by omega
  rw [e, zz_rf_none hr] at h2
  simpa using h2
theorem zz_gf_ok {f : Nat} {st st' : List zz_V} {σ σ' : zz_M} (h : zz_gf f st σ = some (st', σ')) : ∃ t p q a r v, st = zP t p q a :: r ∧ f / 100 = t ∧ σ = σ' ∧ st' = v :: r ∧ ((∃ w : Nat × Nat × Nat × Nat, zz_rf f p q = some w ∧ v = zP w.1 w.2.1 w.2.2.1 (a + w.2.2.2)) ∨ (zz_rf f p q = none ∧ v = zI (σ.1 f a))) := by
  unfold zz_gf at h
  split at h
  · rename_i t p q a r
    split at h
    · rename_i hb
      split at h
      · rename_i t' p' q' o hr
        cases h
        exact ⟨t, p, q, a, r, _, rfl, Nat.eq_of_beq_eq_true hb, rfl, rfl, Or.inl ⟨_, hr, rfl⟩⟩
      · rename_i hr
        cases h
        exact ⟨t, p, q, a, r, _, rfl, Nat.eq_of_beq_eq_true hb, rfl, rfl, Or.inr ⟨hr, rfl⟩⟩
    · cases h
  · cases h
theorem zz_pf_ok {f : Nat} {st st' : List zz_V} {σ σ' : zz_M} (h : zz_pf f st σ = some (st', σ')) : ∃ x t p q a, st = zI x :: zP t p q a :: st' ∧ f / 100 = t ∧ σ' = zz_sf σ f a x ∧ zz_rf f p q = none ∧ zz_isZ f = false := by
  unfold zz_pf at h
  split at h
  · rename_i x t p q a r
    split at h
    · rename_i hb
      split at h
      · cases h
      · rename_i hr
        split at h
        · cases h
        · rename_i hz
          cases h
          exact ⟨x, t, p, q, a, rfl, Nat.eq_of_beq_eq_true hb, rfl, hr, hz⟩
    · cases h
  · cases h
theorem zz_ofN {n : Nat} (h : n < 2147483648) : Int32.ofNat n = Int32.ofInt (n : Nat) := by
  apply Int32.toInt_inj.mp
  rw [show Int32.ofNat n = nI n from rfl, nI_toInt h, zz_tid (by unfold zz_in; omega)]
theorem zz_R_sf {X : zz_X} {σ : zz_M} {H H1 : Heap} {f a : Nat} {v : Int} (hR : zz_R X σ H) (hv : zz_in v) (hP : va_P X.D zz_cl (zz_ws X (zz_sf σ f a v)) H1) : zz_R X (zz_sf σ f a v) H1 := by
  refine ⟨hP, fun f' a' => ?_, hR.2.2⟩
  unfold zz_sf
  dsimp only
  split
  · exact hv
  · exact hR.2.1 f' a'
theorem zz_S_sf {X : zz_X} {σ : zz_M} {H : Heap} (h : zz_R X σ H) : va_D (zz_A X) (zz_ws X σ) := zz_ws_D X σ
section ZL
variable {p : Program} {l : Launch} {e : Env} {R : Room} {s : State} {m : MethodId} {args : Array Value} {below : List Frame} {meth : Method} {c : Code} {H : Heap} {locs : List Loc} {cells slots : Nat} {Q : State → Prop}
variable {cc : ByteArray} {pc : Nat} {ls : Array Slot} {rest : List Value}
theorem zz_ldcSW (hexec : p.tables.exec = Jvm.exec) (hb : c.code = cc) {own tx : String} {index q : Nat} (hown : s.vm.findClass own = some m.cls) (hZ : vk_R own index tx q s) (hdg : decode cc pc = .ok (.ldc_w index, 3))
    (k : W p l e R s m args below meth c H locs cells slots Q (F0 m (pc + 3) ls (.ref q :: rest))) : W p l e R s m args below meth c H locs cells slots Q (F0 m pc ls rest) := by
  intro T hT X
  obtain ⟨t, a1, b1⟩ := k T hT X
  exact ⟨t, X.ldcStringW hexec hown (text := tx) (a := q) hZ.1 hZ.2 (g := F0 m pc ls rest) rfl (by rw [hb]; exact hdg) t a1, b1⟩
end ZL
theorem zz_sr_at {X : zz_X} {s : State} {own : String} {i k : Nat} (h : zz_SR X s) (h1 : (zz_sr.getD k ("", 0, "")).1 = own) (h2 : (zz_sr.getD k ("", 0, "")).2.1 = i) (hk : k < zz_nS) : ∃ tx, vk_R own i tx (X.sa k) s := by
  have hl : k < zz_sr.length := hk
  have e : zz_sr[k]? = some (zz_sr.getD k ("", 0, "")) := by
    rw [List.getD_eq_getElem?_getD, List.getElem?_eq_getElem hl]
    rfl
  have := h.1 k _ e
  rw [h1, h2] at this
  exact ⟨_, this⟩
set_option maxHeartbeats 4000000 in
/-- the step, over the real machine -/
theorem zz_step_ok {X : zz_X} {d : Nat} {P : zz_P} {Z : State → Prop} {p : Program} {e : Env} {s : State} {m : MethodId} {args : Array Value} {below : List Frame} {meth : Method} {c : Code} {H : Heap} {locs : List Loc} {lm : Array Slot} {pc len j : Nat} {ins : Instr} {ts : List Nat} {ls st ls1 st1 : List zz_V} {σ σ1 : zz_M}
    (hs : zz_step ins ts ls st σ = some (ls1, st1, σ1)) (hdec : decode P.bytes pc = .ok (ins, len)) (hchk : zz_ck P.y.cls P.maxL P.code pc len ins ts = true) (hw : ∀ w ∈ zz_wd zz_mn P.y.cls (pc, ins, len, ts), w ∈ zz_tb)
    (hx : p.tables.exec = Jvm.exec) (hb : c.code = P.bytes) (hown : s.vm.findClass P.y.cls = some m.cls) (hts : ∀ w ∈ zz_tb, w.before args s = true) (hE : zz_E X s s.heap) (hS : va_S (zz_A X) s.heap H locs) (hR : zz_R X σ H) (hl : lv_has lm P.maxL (zz_lv X ls)) (hlen : ls.length = P.maxL) (hls : ∀ v ∈ ls, zz_ok X v) (hst : ∀ v ∈ st, zz_ok X v)
    (kk : ∀ (H' : Heap) (locs' : List Loc) (lm' : Array Slot), va_S (zz_A X) s.heap H' locs' → zz_R X σ1 H' → lv_has lm' P.maxL (zz_lv X ls1) → ls1.length = P.maxL → (∀ v ∈ ls1, zz_ok X v) → (∀ v ∈ st1, zz_ok X v) → W p X.l e (zz_room d) s m args below meth c H' locs' 0 0 Z (F0 m (pc + len) lm' (st1.map (zz_toV X)))) :
    W p X.l e (zz_room d) s m args below meth c H locs 0 0 Z (F0 m pc lm (st.map (zz_toV X))) := by
  cases ins
  case iadd =>
    dsimp only [zz_ck] at hchk
    have el := of_decide_eq_true hchk
    subst el
    simp only [zz_step] at hs
    split at hs
    · rename_i y x r
      cases hs
      obtain ⟨o1, o2, o3⟩ := zz_fm2 hst
      refine lv_iadd hx hb hdec ?_
      have k2 := kk H locs lm hS hR hl hlen hls (zz_all1 (P := zz_ok X) (zw_in _) o3)
      have ev : Int32.ofInt (zw (x + y)) = Int32.ofInt x + Int32.ofInt y := by rw [zw_of, Int32.ofInt_add]
      simp only [List.map_cons, zz_toV, ev] at k2
      exact k2
    · cases hs
  case isub =>
    dsimp only [zz_ck] at hchk
    have el := of_decide_eq_true hchk
    subst el
    simp only [zz_step] at hs
    split at hs
    · rename_i y x r
      cases hs
      obtain ⟨o1, o2, o3⟩ := zz_fm2 hst
      refine lv_isub hx hb hdec ?_
      have k2 := kk H locs lm hS hR hl hlen hls (zz_all1 (P := zz_ok X) (zw_in _) o3)
      have ev : Int32.ofInt (zw (x - y)) = Int32.ofInt x - Int32.ofInt y := by rw [zw_of, Int32.ofInt_sub]
      simp only [List.map_cons, zz_toV, ev] at k2
      exact k2
    · cases hs
  case imul =>
    dsimp only [zz_ck] at hchk
    have el := of_decide_eq_true hchk
    subst el
    simp only [zz_step] at hs
    split at hs
    · rename_i y x r
      cases hs
      obtain ⟨o1, o2, o3⟩ := zz_fm2 hst
      refine lv_imul hx hb hdec ?_
      have k2 := kk H locs lm hS hR hl hlen hls (zz_all1 (P := zz_ok X) (zw_in _) o3)
      have ev : Int32.ofInt (zw (x * y)) = Int32.ofInt x * Int32.ofInt y := by rw [zw_of, Int32.ofInt_mul]
      simp only [List.map_cons, zz_toV, ev] at k2
      exact k2
    · cases hs
  case iand =>
    dsimp only [zz_ck] at hchk
    have el := of_decide_eq_true hchk
    subst el
    simp only [zz_step] at hs
    split at hs
    · rename_i y x r
      cases hs
      obtain ⟨o1, o2, o3⟩ := zz_fm2 hst
      refine lv_iand hx hb hdec ?_
      have k2 := kk H locs lm hS hR hl hlen hls (zz_all1 (P := zz_ok X) (zz_i32 _) o3)
      have ev : Int32.ofInt (zz_and x y) = Int32.ofInt x &&& Int32.ofInt y := zz_b_of _ x y
      simp only [List.map_cons, zz_toV, ev] at k2
      exact k2
    · cases hs
  case ior =>
    dsimp only [zz_ck] at hchk
    have el := of_decide_eq_true hchk
    subst el
    simp only [zz_step] at hs
    split at hs
    · rename_i y x r
      cases hs
      obtain ⟨o1, o2, o3⟩ := zz_fm2 hst
      refine lv_ior hx hb hdec ?_
      have k2 := kk H locs lm hS hR hl hlen hls (zz_all1 (P := zz_ok X) (zz_i32 _) o3)
      have ev : Int32.ofInt (zz_or x y) = Int32.ofInt x ||| Int32.ofInt y := zz_b_of _ x y
      simp only [List.map_cons, zz_toV, ev] at k2
      exact k2
    · cases hs
  case ishr =>
    dsimp only [zz_ck] at hchk
    have el := of_decide_eq_true hchk
    subst el
    simp only [zz_step] at hs
    split at hs
    · rename_i y x r
      cases hs
      obtain ⟨o1, o2, o3⟩ := zz_fm2 hst
      refine lv_ishr hx hb hdec ?_
      have k2 := kk H locs lm hS hR hl hlen hls (zz_all1 (P := zz_ok X) (zz_i32 _) o3)
      have ev : Int32.ofInt (zz_shr x y) = Int32.ofInt x >>> (Int32.ofInt y &&& 31) := zz_b_of _ x y
      simp only [List.map_cons, zz_toV, ev] at k2
      exact k2
    · cases hs
  case iushr =>
    dsimp only [zz_ck] at hchk
    have el := of_decide_eq_true hchk
    subst el
    simp only [zz_step] at hs
    split at hs
    · rename_i y x r
      cases hs
      obtain ⟨o1, o2, o3⟩ := zz_fm2 hst
      refine lv_iushr hx hb hdec (v := Int32.ofInt (zz_ushr x y)) (by unfold zz_ushr; rw [zz_b_of]) ?_
      have k2 := kk H locs lm hS hR hl hlen hls (zz_all1 (P := zz_ok X) (zz_i32 _) o3)
      have ev : True := trivial
      simp only [List.map_cons, zz_toV, ev] at k2
      exact k2
    · cases hs
  case lsub =>
    dsimp only [zz_ck] at hchk
    have el := of_decide_eq_true hchk
    subst el
    simp only [zz_step] at hs
    split at hs
    · rename_i y x r
      cases hs
      obtain ⟨o1, o2, o3⟩ := zz_fm2 hst
      refine lv_lsub hx hb hdec ?_
      have k2 := kk H locs lm hS hR hl hlen hls (zz_all1 (P := zz_ok X) (zz_i64 _) o3)
      have ev : Int64.ofInt (zz_lsub x y) = Int64.ofInt x - Int64.ofInt y := zz_l_of _ x y
      simp only [List.map_cons, zz_toV, ev] at k2
      exact k2
    · cases hs
  case land =>
    dsimp only [zz_ck] at hchk
    have el := of_decide_eq_true hchk
    subst el
    simp only [zz_step] at hs
    split at hs
    · rename_i y x r
      cases hs
      obtain ⟨o1, o2, o3⟩ := zz_fm2 hst
      refine lv_land hx hb hdec ?_
      have k2 := kk H locs lm hS hR hl hlen hls (zz_all1 (P := zz_ok X) (zz_i64 _) o3)
      have ev : Int64.ofInt (zz_land x y) = Int64.ofInt x &&& Int64.ofInt y := zz_l_of _ x y
      simp only [List.map_cons, zz_toV, ev] at k2
      exact k2
    · cases hs
  case lshl =>
    dsimp only [zz_ck] at hchk
    have el := of_decide_eq_true hchk
    subst el
    simp only [zz_step] at hs
    split at hs
    · rename_i y x r
      cases hs
      obtain ⟨o1, o2, o3⟩ := zz_fm2 hst
      refine lv_lshl hx hb hdec (v := Int64.ofInt (zz_lshl x y)) (by unfold zz_lshl; rw [Int64.ofInt_toInt]) ?_
      have k2 := kk H locs lm hS hR hl hlen hls (zz_all1 (P := zz_ok X) (zz_i64 _) o3)
      have ev : True := trivial
      simp only [List.map_cons, zz_toV, ev] at k2
      exact k2
    · cases hs
  case lshr =>
    dsimp only [zz_ck] at hchk
    have el := of_decide_eq_true hchk
    subst el
    simp only [zz_step] at hs
    split at hs
    · rename_i y x r
      cases hs
      obtain ⟨o1, o2, o3⟩ := zz_fm2 hst
      refine lv_lshr hx hb hdec (v := Int64.ofInt (zz_lshr x y)) (by unfold zz_lshr; rw [Int64.ofInt_toInt]) ?_
      have k2 := kk H locs lm hS hR hl hlen hls (zz_all1 (P := zz_ok X) (zz_i64 _) o3)
      have ev : True := trivial
      simp only [List.map_cons, zz_toV, ev] at k2
      exact k2
    · cases hs
  case lushr =>
    dsimp only [zz_ck] at hchk
    have el := of_decide_eq_true hchk
    subst el
    simp only [zz_step] at hs
    split at hs
    · rename_i y x r
      cases hs
      obtain ⟨o1, o2, o3⟩ := zz_fm2 hst
      refine lv_lushr hx hb hdec (v := Int64.ofInt (zz_lushr x y)) (by unfold zz_lushr; rw [Int64.ofInt_toInt]) ?_
      have k2 := kk H locs lm hS hR hl hlen hls (zz_all1 (P := zz_ok X) (zz_i64 _) o3)
      have ev : True := trivial
      simp only [List.map_cons, zz_toV, ev] at k2
      exact k2
    · cases hs
  case lcmp =>
    dsimp only [zz_ck] at hchk
    have el := of_decide_eq_true hchk
    subst el
    simp only [zz_step] at hs
    split at hs
    · rename_i y x r
      cases hs
      obtain ⟨o1, o2, o3⟩ := zz_fm2 hst
      refine W.lcmp hx hb hdec ?_
      have k2 := kk H locs lm hS hR hl hlen hls (zz_all1 (P := zz_ok X) (zz_lcmp_in _ _) o3)
      have ev : Int32.ofInt (zz_lcmp x y) = lg_cmp (Int64.ofInt x) (Int64.ofInt y) := (zz_lcmp_of o2 o1).symm
      simp only [List.map_cons, zz_toV, ev] at k2
      exact k2
    · cases hs
  case i2b =>
    dsimp only [zz_ck] at hchk
    have el := of_decide_eq_true hchk
    subst el
    simp only [zz_step] at hs
    split at hs
    · rename_i x r
      cases hs
      obtain ⟨o1, o3⟩ := List.forall_mem_cons.mp hst
      refine lv_i2b hx hb hdec (v := Int32.ofInt (zz_i2b x)) (by unfold zz_i2b; rw [Int32.ofInt_toInt]) ?_
      exact kk H locs lm hS hR hl hlen hls (zz_all1 (P := zz_ok X) (zz_i32 _) o3)
    · cases hs
  case i2l =>
    dsimp only [zz_ck] at hchk
    have el := of_decide_eq_true hchk
    subst el
    simp only [zz_step] at hs
    split at hs
    · rename_i x r
      cases hs
      obtain ⟨o1, o3⟩ := List.forall_mem_cons.mp hst
      refine lv_i2l hx hb hdec (v := Int64.ofInt x) (zz_i2l o1) ?_
      exact kk H locs lm hS hR hl hlen hls (zz_all1 (P := zz_ok X) (show zz_inL x by have := zz_okI o1; unfold zz_in at this; unfold zz_inL; omega) o3)
    · cases hs
  case iload_n k =>
    dsimp only [zz_ck] at hchk
    have el := of_decide_eq_true hchk
    subst el
    simp only [zz_step, zz_ldI] at hs
    split at hs
    · rename_i i hk
      cases hs
      refine lv_iload_n hx hb hdec rfl (zz_lv_at hl hk (by intro z; cases z)) ?_
      exact kk H locs lm hS hR hl hlen hls (zz_all1 (P := zz_ok X) (hls _ (List.mem_of_getElem? hk)) hst)
    · cases hs
  case iload k =>
    dsimp only [zz_ck] at hchk
    have el := of_decide_eq_true hchk
    subst el
    simp only [zz_step, zz_ldI] at hs
    split at hs
    · rename_i i hk
      cases hs
      refine lv_iload hx hb hdec (zz_lv_at hl hk (by intro z; cases z)) ?_
      exact kk H locs lm hS hR hl hlen hls (zz_all1 (P := zz_ok X) (hls _ (List.mem_of_getElem? hk)) hst)
    · cases hs
  case lload_n k =>
    dsimp only [zz_ck] at hchk
    have el := of_decide_eq_true hchk
    subst el
    simp only [zz_step, zz_ldL] at hs
    split at hs
    · rename_i i hk
      cases hs
      refine lv_lload_n hx hb hdec rfl (zz_lv_at hl hk (by intro z; cases z)) ?_
      exact kk H locs lm hS hR hl hlen hls (zz_all1 (P := zz_ok X) (hls _ (List.mem_of_getElem? hk)) hst)
    · cases hs
  case lload k =>
    dsimp only [zz_ck] at hchk
    have el := of_decide_eq_true hchk
    subst el
    simp only [zz_step, zz_ldL] at hs
    split at hs
    · rename_i i hk
      cases hs
      refine lv_lload hx hb hdec (zz_lv_at hl hk (by intro z; cases z)) ?_
      exact kk H locs lm hS hR hl hlen hls (zz_all1 (P := zz_ok X) (hls _ (List.mem_of_getElem? hk)) hst)
    · cases hs
  case aload_n k =>
    dsimp only [zz_ck] at hchk
    have el := of_decide_eq_true hchk
    subst el
    simp only [zz_step, zz_ldA] at hs
    split at hs
    · rename_i i hk
      cases hs
      refine lv_aload_n hx hb hdec rfl (zz_lv_at hl hk (by intro z; cases z)) ?_
      exact kk H locs lm hS hR hl hlen hls (zz_all1 (P := zz_ok X) (hls _ (List.mem_of_getElem? hk)) hst)
    · rename_i hk
      cases hs
      refine lv_aload_nN hx hb hdec rfl (zz_lv_at hl hk (by intro z; cases z)) ?_
      exact kk H locs lm hS hR hl hlen hls (zz_all1 (P := zz_ok X) (hls _ (List.mem_of_getElem? hk)) hst)
    · rename_i i hk
      cases hs
      refine lv_aload_n hx hb hdec rfl (zz_lv_at hl hk (by intro z; cases z)) ?_
      exact kk H locs lm hS hR hl hlen hls (zz_all1 (P := zz_ok X) (hls _ (List.mem_of_getElem? hk)) hst)
    · cases hs
  case aload k =>
    dsimp only [zz_ck] at hchk
    have el := of_decide_eq_true hchk
    subst el
    simp only [zz_step, zz_ldA] at hs
    split at hs
    · rename_i i hk
      cases hs
      refine lv_aload hx hb hdec (zz_lv_at hl hk (by intro z; cases z)) ?_
      exact kk H locs lm hS hR hl hlen hls (zz_all1 (P := zz_ok X) (hls _ (List.mem_of_getElem? hk)) hst)
    · rename_i hk
      cases hs
      refine lv_aloadN hx hb hdec (zz_lv_at hl hk (by intro z; cases z)) ?_
      exact kk H locs lm hS hR hl hlen hls (zz_all1 (P := zz_ok X) (hls _ (List.mem_of_getElem? hk)) hst)
    · rename_i i hk
      cases hs
      refine lv_aload hx hb hdec (zz_lv_at hl hk (by intro z; cases z)) ?_
      exact kk H locs lm hS hR hl hlen hls (zz_all1 (P := zz_ok X) (hls _ (List.mem_of_getElem? hk)) hst)
    · cases hs
  case istore_n k =>
    dsimp only [zz_ck] at hchk
    have el := of_decide_eq_true hchk
    subst el
    simp only [zz_step, zz_stI] at hs
    split at hs
    · rename_i i r
      split at hs
      · rename_i ls' hk
        cases hs
        obtain ⟨o1, o3⟩ := List.forall_mem_cons.mp hst
        have hkl : (k : Nat) < ls.length := by
          unfold zz_st at hk
          by_cases h : (k : Nat) < ls.length
          · exact h
          · rw [decide_eq_false h] at hk; cases hk
        refine lv_istore_n hx hb hdec rfl hl (by rw [← hlen]; exact hkl) rfl (fun lm' hl' => ?_)
        obtain ⟨q1, q2, -, q4⟩ := zz_lv_set hk hl'
        exact kk H locs lm' hS hR q1 (q2.trans hlen) (fun w hw => (q4 w hw).elim (fun z => by rw [z]; exact o1) (hls w)) o3
      · cases hs
    · cases hs
  case istore k =>
    dsimp only [zz_ck] at hchk
    have el := of_decide_eq_true hchk
    subst el
    simp only [zz_step, zz_stI] at hs
    split at hs
    · rename_i i r
      split at hs
      · rename_i ls' hk
        cases hs
        obtain ⟨o1, o3⟩ := List.forall_mem_cons.mp hst
        have hkl : (k : Nat) < ls.length := by
          unfold zz_st at hk
          by_cases h : (k : Nat) < ls.length
          · exact h
          · rw [decide_eq_false h] at hk; cases hk
        refine lv_istore hx hb hdec hl (by rw [← hlen]; exact hkl) rfl (fun lm' hl' => ?_)
        obtain ⟨q1, q2, -, q4⟩ := zz_lv_set hk hl'
        exact kk H locs lm' hS hR q1 (q2.trans hlen) (fun w hw => (q4 w hw).elim (fun z => by rw [z]; exact o1) (hls w)) o3
      · cases hs
    · cases hs
  case astore_n k =>
    dsimp only [zz_ck] at hchk
    have el := of_decide_eq_true hchk
    subst el
    simp only [zz_step, zz_stA] at hs
    split at hs
    · rename_i i r
      split at hs
      · rename_i ls' hk
        cases hs
        obtain ⟨o1, o3⟩ := List.forall_mem_cons.mp hst
        have hkl : (k : Nat) < ls.length := by
          unfold zz_st at hk
          by_cases h : (k : Nat) < ls.length
          · exact h
          · rw [decide_eq_false h] at hk; cases hk
        refine lv_astore_n hx hb hdec rfl hl (by rw [← hlen]; exact hkl) rfl (fun lm' hl' => ?_)
        obtain ⟨q1, q2, -, q4⟩ := zz_lv_set hk hl'
        exact kk H locs lm' hS hR q1 (q2.trans hlen) (fun w hw => (q4 w hw).elim (fun z => by rw [z]; exact o1) (hls w)) o3
      · cases hs
    · rename_i r
      split at hs
      · rename_i ls' hk
        cases hs
        obtain ⟨o1, o3⟩ := List.forall_mem_cons.mp hst
        have hkl : (k : Nat) < ls.length := by
          unfold zz_st at hk
          by_cases h : (k : Nat) < ls.length
          · exact h
          · rw [decide_eq_false h] at hk; cases hk
        refine lv_astore_nN hx hb hdec rfl hl (by rw [← hlen]; exact hkl) rfl (fun lm' hl' => ?_)
        obtain ⟨q1, q2, -, q4⟩ := zz_lv_set hk hl'
        exact kk H locs lm' hS hR q1 (q2.trans hlen) (fun w hw => (q4 w hw).elim (fun z => by rw [z]; exact o1) (hls w)) o3
      · cases hs
    · cases hs
  case astore k =>
    dsimp only [zz_ck] at hchk
    have el := of_decide_eq_true hchk
    subst el
    simp only [zz_step, zz_stA] at hs
    split at hs
    · rename_i i r
      split at hs
      · rename_i ls' hk
        cases hs
        obtain ⟨o1, o3⟩ := List.forall_mem_cons.mp hst
        have hkl : (k : Nat) < ls.length := by
          unfold zz_st at hk
          by_cases h : (k : Nat) < ls.length
          · exact h
          · rw [decide_eq_false h] at hk; cases hk
        refine lv_astore hx hb hdec hl (by rw [← hlen]; exact hkl) rfl (fun lm' hl' => ?_)
        obtain ⟨q1, q2, -, q4⟩ := zz_lv_set hk hl'
        exact kk H locs lm' hS hR q1 (q2.trans hlen) (fun w hw => (q4 w hw).elim (fun z => by rw [z]; exact o1) (hls w)) o3
      · cases hs
    · rename_i r
      split at hs
      · rename_i ls' hk
        cases hs
        obtain ⟨o1, o3⟩ := List.forall_mem_cons.mp hst
        have hkl : (k : Nat) < ls.length := by
          unfold zz_st at hk
          by_cases h : (k : Nat) < ls.length
          · exact h
          · rw [decide_eq_false h] at hk; cases hk
        refine lv_astoreN hx hb hdec hl (by rw [← hlen]; exact hkl) rfl (fun lm' hl' => ?_)
        obtain ⟨q1, q2, -, q4⟩ := zz_lv_set hk hl'
        exact kk H locs lm' hS hR q1 (q2.trans hlen) (fun w hw => (q4 w hw).elim (fun z => by rw [z]; exact o1) (hls w)) o3
      · cases hs
    · cases hs
  case iconst n =>
    simp only [zz_ck, Bool.and_eq_true, decide_eq_true_eq] at hchk
    obtain ⟨⟨el, e1⟩, e2⟩ := hchk
    subst el
    cases hs
    refine lv_iconst hx hb hdec rfl ?_
    exact kk H locs lm hS hR hl hlen hls (zz_all1 (P := zz_ok X) (show zz_in n by unfold zz_in; omega) hst)
  case bipush n =>
    simp only [zz_ck, Bool.and_eq_true, decide_eq_true_eq] at hchk
    obtain ⟨⟨⟨el, e0⟩, e1⟩, e2⟩ := hchk
    subst el
    cases hs
    refine lv_bipush hx hb hdec e0 ?_
    exact kk H locs lm hS hR hl hlen hls (zz_all1 (P := zz_ok X) (show zz_in n by unfold zz_in; omega) hst)
  case sipush n =>
    simp only [zz_ck, Bool.and_eq_true, decide_eq_true_eq] at hchk
    obtain ⟨⟨⟨el, e0⟩, e1⟩, e2⟩ := hchk
    subst el
    cases hs
    refine lv_sipush hx hb hdec e0 ?_
    exact kk H locs lm hS hR hl hlen hls (zz_all1 (P := zz_ok X) (show zz_in n by unfold zz_in; omega) hst)
  case lconst n =>
    dsimp only [zz_ck] at hchk
    have el := of_decide_eq_true hchk
    subst el
    cases hs
    refine lv_lconst hx hb hdec (v := Int64.ofInt (n : Nat)) (match n with | 0 => rfl | 1 => rfl) ?_
    exact kk H locs lm hS hR hl hlen hls (zz_all1 (P := zz_ok X) (show zz_inL ((n : Nat) : Int) by have := n.isLt; unfold zz_inL; omega) hst)
  case aconst_null =>
    dsimp only [zz_ck] at hchk
    have el := of_decide_eq_true hchk
    subst el
    cases hs
    refine lv_null hx hb hdec ?_
    exact kk H locs lm hS hR hl hlen hls (zz_all1 (P := zz_ok X) (Or.inl (by omega)) hst)
  case iinc k n =>
    simp only [zz_ck, Bool.and_eq_true, decide_eq_true_eq] at hchk
    obtain ⟨⟨⟨el, e0⟩, e1⟩, e2⟩ := hchk
    subst el
    simp only [zz_step] at hs
    split at hs
    · rename_i x hk
      split at hs
      · rename_i ls' hk2
        cases hs
        obtain ⟨kx, hkx⟩ := List.getElem?_of_mem (zz_lv_mem (X := X) hk (by intro z; cases z))
        refine lv_iinc hx hb hdec hl (v := Int32.ofInt (zw (x + n))) hkx (by rw [zw_of, Int32.ofInt_add]) e0 rfl (fun lm' hl' => ?_)
        obtain ⟨q1, q2, -, q4⟩ := zz_lv_set hk2 hl'
        exact kk H locs lm' hS hR q1 (q2.trans hlen) (fun w hw => (q4 w hw).elim (fun z => by rw [z]; exact zw_in _) (hls w)) hst
      · cases hs
    · cases hs
  case dup =>
    dsimp only [zz_ck] at hchk
    have el := of_decide_eq_true hchk
    subst el
    simp only [zz_step] at hs
    split at hs
    · rename_i v r
      split at hs
      · rename_i hc
        cases hs
        obtain ⟨o1, o3⟩ := List.forall_mem_cons.mp hst
        refine lv_dup hx hb hdec (zz_c1_ok hc) ?_
        exact kk H locs lm hS hR hl hlen hls (zz_all1 (P := zz_ok X) o1 hst)
      · cases hs
    · cases hs
  case dup2 =>
    dsimp only [zz_ck] at hchk
    have el := of_decide_eq_true hchk
    subst el
    simp only [zz_step] at hs
    split at hs
    · rename_i v w r
      split at hs
      · rename_i hc hd
        cases hs
        obtain ⟨o1, o2, o3⟩ := zz_fm2 hst
        refine lv_dup2_11 hx hb hdec (zz_c1_ok hc) (zz_c1_ok hd) ?_
        exact kk H locs lm hS hR hl hlen hls (zz_all1 (P := zz_ok X) o1 (zz_all1 (P := zz_ok X) o2 hst))
      · cases hs
    · cases hs
  case pop =>
    dsimp only [zz_ck] at hchk
    have el := of_decide_eq_true hchk
    subst el
    simp only [zz_step] at hs
    split at hs
    · rename_i v r
      split at hs
      · rename_i hc
        cases hs
        obtain ⟨o1, o3⟩ := List.forall_mem_cons.mp hst
        refine lv_pop hx hb hdec (zz_c1_ok hc) ?_
        exact kk H locs lm hS hR hl hlen hls o3
      · cases hs
    · cases hs
  case getfield i =>
    simp only [zz_ck, Bool.and_eq_true, decide_eq_true_eq] at hchk
    obtain ⟨⟨el, h13⟩, hnf⟩ := hchk
    subst el
    simp only [zz_step] at hs
    split at hs
    · rename_i f ts'
      have h13 : f / 100 < 13 := h13
      have hnf : f % 100 < zz_nf (f / 100) := hnf
      split at hs
      · rename_i st' σ' hg
        cases hs
        obtain ⟨t, p1, q1, a, r, v, rfl, ht, rfl, rfl, hv⟩ := zz_gf_ok hg
        obtain ⟨o1, o3⟩ := List.forall_mem_cons.mp hst
        obtain ⟨i0, hi0, ha, hK⟩ := o1
        dsimp only at ha hK
        subst ha
        subst ht
        obtain ⟨C, T, ty, hc, hin, hty, hnm⟩ := zz_cl_at h13
        have hlink := hts _ (hw (.fieldLink P.y.cls i (zz_fT f).1 (zz_fT f).2.1 (zz_fT f).2.2.1) List.mem_cons_self)
        rw [zz_fT_at hc] at hlink
        have hat := zz_ws_at X σ hi0
        rw [hK, zz_ce_o h13] at hat
        have hf : 100 * (f / 100) + f % 100 = f := by omega
        have hv2 : (zz_fs (f / 100) p1 q1 σ (X.b + i0))[f % 100]? = some (zz_toV X v) := by
          rw [zz_fs_at hnf, hf]
          rcases hv with ⟨w, h1, rfl⟩ | ⟨h1, rfl⟩
          · rw [h1]; rfl
          · rw [h1]; rfl
        refine va_get (D := X.D) (cl := zz_cl) (ws := zz_ws X σ) (ci := f / 100) (v := zz_toV X v) hx hb hts hin hown hE.1 hR.1 i0 hat hc (f % 100) hnf hlink (fun _ h => h) hv2 hdec ?_
        refine kk H locs lm hS hR hl hlen hls (zz_all1 (P := zz_ok X) ?_ o3)
        rcases hv with ⟨w, h1, rfl⟩ | ⟨h1, rfl⟩
        · obtain ⟨g1, g2⟩ := zz_closed hi0 hK rfl hnf h1
          exact ⟨i0 + w.2.2.2, g1, by dsimp only; omega, g2⟩
        · exact hR.2.1 _ _
      · cases hs
    · cases hs
  case putfield i =>
    simp only [zz_ck, Bool.and_eq_true, decide_eq_true_eq] at hchk
    obtain ⟨⟨⟨el, h13⟩, hnf⟩, hfin⟩ := hchk
    subst el
    simp only [zz_step] at hs
    split at hs
    · rename_i f ts'
      have h13 : f / 100 < 13 := h13
      have hnf : f % 100 < zz_nf (f / 100) := hnf
      have hfin : (zz_fT f).2.2.2 = false := hfin
      split at hs
      · rename_i st' σ' hg
        cases hs
        obtain ⟨x, t, p1, q1, a, rfl, ht, rfl, hr, hz⟩ := zz_pf_ok hg
        obtain ⟨o0, o1, o3⟩ := zz_fm2 hst
        obtain ⟨i0, hi0, ha, hK⟩ := o1
        dsimp only at ha hK
        subst ha
        subst ht
        obtain ⟨C, T, ty, hc, hin, hty, hnm⟩ := zz_cl_at h13
        have hlink := hts _ (hw (.fieldLink P.y.cls i (zz_fT f).1 (zz_fT f).2.1 (zz_fT f).2.2.1) List.mem_cons_self)
        have hpty := zz_fieldTy h13 hnf hr
        rw [hz] at hpty
        rw [zz_fT_at hc] at hlink hfin hpty
        have hat := zz_ws_at X σ hi0
        rw [hK, zz_ce_o h13] at hat
        refine va_put (D := X.D) (cl := zz_cl) (ws := zz_ws X σ) (ci := f / 100) (v := .int (Int32.ofInt x)) (ty := .int) hx hb hts hin ty hty hnm hown hE.1 hR.1 (zz_ws_D X σ) hS i0 hat hc (f % 100) hnf hlink (fun _ h => h) hfin hpty (vp_nar_int _) rfl (by rw [zz_fs_len]; exact hnf) hdec (fun H1 locs1 hP1 hD1 hS1 => ?_)
        rw [zz_ws_sf hi0 hK h13 rfl hr] at hP1
        exact kk H1 locs1 lm hS1 (zz_R_sf hR o0 hP1) hl hlen hls o3
      · cases hs
    · cases hs
  case arraylength =>
    dsimp only [zz_ck] at hchk
    have el := of_decide_eq_true hchk
    subst el
    simp only [zz_step] at hs
    split at hs
    · rename_i t p1 q1 a r
      split at hs
      · rename_i hb50
        cases hs
        obtain ⟨o1, o3⟩ := List.forall_mem_cons.mp hst
        obtain ⟨i0, hi0, ha, hK⟩ := o1
        dsimp only at ha hK
        subst ha
        obtain ⟨ht, hp⟩ := zz_kindsOk hi0 hK
        have h50 : 50 ≤ t := Nat.le_of_ble_eq_true hb50
        have hat := zz_ws_at X σ hi0
        rw [hK] at hat
        have hce : ∃ x : vp_A, zz_ce X σ (X.b + i0) (t, p1, q1) = .inl (X.dA (t - 50), x) ∧ x.1 = p1 := by
          unfold zz_ce
          rw [if_neg (by dsimp only; omega)]
          split
          · exact ⟨_, rfl, rfl⟩
          · exact ⟨_, rfl, rfl⟩
        obtain ⟨xa, e1, e2⟩ := hce
        rw [e1] at hat
        have hty : ∃ ty, (zz_tys X)[t - 50]? = some (X.dA (t - 50), ty) := by
          have ht2 : t - 50 < 6 := by omega
          generalize t - 50 = k at ht2
          match k, ht2 with
          | 0, _ => exact ⟨_, rfl⟩
          | 1, _ => exact ⟨_, rfl⟩
          | 2, _ => exact ⟨_, rfl⟩
          | 3, _ => exact ⟨_, rfl⟩
          | 4, _ => exact ⟨_, rfl⟩
          | 5, _ => exact ⟨_, rfl⟩
          | n + 6, h => omega
        obtain ⟨ty, hty⟩ := hty
        refine va_alen (D := X.D) (cl := zz_cl) (ws := zz_ws X σ) hx hb hE.1 hR.1 i0 (t - 50) hat hty (v := Int32.ofInt (p1 : Nat)) (by rw [e2]; exact zz_ofN (by omega)) hdec ?_
        exact kk H locs lm hS hR hl hlen hls (zz_all1 (P := zz_ok X) (show zz_in ((p1 : Nat) : Int) by unfold zz_in; omega) o3)
      · cases hs
    · cases hs
  case ldc i =>
    dsimp only [zz_ck] at hchk
    rw [Bool.and_eq_true] at hchk
    obtain ⟨el, hchk⟩ := hchk
    have el := of_decide_eq_true el
    subst el
    split at hchk
    · rename_i k
      simp only [Bool.and_eq_true, decide_eq_true_eq] at hchk
      obtain ⟨⟨h1, h2⟩, h3⟩ := hchk
      cases hs
      obtain ⟨tx, hZ⟩ := zz_sr_at hE.2.2.1 h1 h2 h3
      refine va_ldcS hx hb hown hZ hdec ?_
      exact kk H locs lm hS hR hl hlen hls (zz_all1 (P := zz_ok X) (Or.inr (by omega)) hst)
    · rename_i v
      have hv := of_decide_eq_true hchk
      cases hs
      have hcon := hts _ (hw (.constant P.y.cls i (Int32.ofInt (v : Nat))) List.mem_cons_self)
      refine lv_ldc hx hb hown hcon hdec ?_
      exact kk H locs lm hS hR hl hlen hls (zz_all1 (P := zz_ok X) (show zz_in ((v : Nat) : Int) by unfold zz_in; omega) hst)
    · cases hchk
  case ldc_w i =>
    dsimp only [zz_ck] at hchk
    rw [Bool.and_eq_true] at hchk
    obtain ⟨el, hchk⟩ := hchk
    have el := of_decide_eq_true el
    subst el
    split at hchk
    · rename_i k
      simp only [Bool.and_eq_true, decide_eq_true_eq] at hchk
      obtain ⟨⟨h1, h2⟩, h3⟩ := hchk
      cases hs
      obtain ⟨tx, hZ⟩ := zz_sr_at hE.2.2.1 h1 h2 h3
      refine zz_ldcSW hx hb hown hZ hdec ?_
      exact kk H locs lm hS hR hl hlen hls (zz_all1 (P := zz_ok X) (Or.inr (by omega)) hst)
    · rename_i v
      have hv := of_decide_eq_true hchk
      cases hs
      have hcon := hts _ (hw (.constant P.y.cls i (Int32.ofInt (v : Nat))) List.mem_cons_self)
      refine lv_ldcw hx hb hown hcon hdec ?_
      exact kk H locs lm hS hR hl hlen hls (zz_all1 (P := zz_ok X) (show zz_in ((v : Nat) : Int) by unfold zz_in; omega) hst)
    · cases hchk
  case ldc2_w i =>
    simp only [zz_ck, Bool.and_eq_true, decide_eq_true_eq] at hchk
    obtain ⟨el, hv⟩ := hchk
    subst el
    simp only [zz_step] at hs
    split at hs
    · rename_i v ts'
      cases hs
      have hv : v < 1000000 := hv
      have hcon := hts _ (hw (.constantLong P.y.cls i (Int64.ofInt (v : Nat))) List.mem_cons_self)
      refine lv_ldc2 hx hb hown hcon hdec ?_
      exact kk H locs lm hS hR hl hlen hls (zz_all1 (P := zz_ok X) (show zz_inL ((v : Nat) : Int) by unfold zz_inL; omega) hst)
    · cases hs
  all_goals (cases hs)
end
section
/-! THE ROWS over zz_G: a step, a jump, a branch, a switch, arrays, a call, an end. -/
theorem zz_row {P : zz_P} {j : Nat} {e : zz_C} (hok : zz_okP P) (h : P.code[j]? = some e) : decode P.bytes e.1 = .ok (e.2.1, e.2.2.1) ∧ (zz_end e.2.1 = false → zz_pc P (j + 1) = e.1 + e.2.2.1) ∧ zz_ck P.y.cls P.maxL P.code e.1 e.2.2.1 e.2.1 e.2.2.2 = true ∧ (∀ w ∈ zz_wd zz_mn P.y.cls e, w ∈ zz_tb) ∧ zz_pc P j = e.1 := by
  have h1 := List.all_eq_true.mp hok.1 (e, j) (List.mk_mem_zipIdx_iff_getElem?.mpr h)
  unfold zz_dc at h1
  simp only [Bool.and_eq_true] at h1
  obtain ⟨⟨h2, h3⟩, h4⟩ := h1
  refine ⟨of_decide_eq_true h2, fun he => ?_, h4, fun w hw => hok.2 w (List.mem_flatMap.mpr ⟨e, List.mem_of_getElem? h, hw⟩), by unfold zz_pc; rw [h]⟩
  unfold zz_pc
  cases hn : P.code[j + 1]? with
  | none =>
    rw [hn] at h3
    dsimp only at h3
    rw [he] at h3
    cases h3
  | some e' =>
    rw [hn] at h3
    exact of_decide_eq_true h3
theorem zz_tgt {P : zz_P} {pc t : Nat} {off : Int} (h : zz_tg P.code pc off t = true) : (pc : Int) + off = (zz_pc P t : Int) := by
  unfold zz_tg at h
  unfold zz_pc
  cases ht : P.code[t]? with
  | none => rw [ht] at h; cases h
  | some e => rw [ht] at h; exact of_decide_eq_true h
theorem zz_step_end {ins : Instr} {ts : List Nat} {ls st : List zz_V} {σ : zz_M} {r : List zz_V × List zz_V × zz_M} (h : zz_step ins ts ls st σ = some r) : zz_end ins = false := by
  cases ins <;> first | rfl | (cases h; done)
section ZR
variable {X : zz_X} {d : Nat} {P : zz_P} {j : Nat} {ls st : List zz_V} {σ : zz_M} {Post : Option zz_V → zz_M → Prop}
/-- a step -/
theorem zz_gs {j' : Nat} {ls' st' : List zz_V} {σ' : zz_M} (h : zz_s1 P.code j ls st σ = some (j', ls', st', σ')) (k : zz_G X d P j' ls' st' σ' Post) : zz_G X d P j ls st σ Post := by
  intro p e s m args below meth c H locs lm hok hx hb hml hr hlk hown hts hE hS hR hl hlen hls hst
  unfold zz_s1 at h
  cases he : P.code[j]? with
  | none => rw [he] at h; cases h
  | some en =>
    rw [he] at h
    dsimp only at h
    cases hs : zz_step en.2.1 en.2.2.2 ls st σ with
    | none => rw [hs] at h; cases h
    | some r =>
      obtain ⟨ls1, st1, σ1⟩ := r
      rw [hs] at h
      cases h
      obtain ⟨r1, r2, r3, r4, r5⟩ := zz_row hok he
      rw [r5]
      refine zz_step_ok (j := j) hs r1 r3 r4 hx hb hown hts hE hS hR hl hlen hls hst (fun H' locs' lm' hS' hR' hl' hlen' hls' hst' => ?_)
      rw [← r2 (zz_step_end hs)]
      exact k p e s m args below meth c H' locs' lm' hok hx hb hml hr hlk hown hts hE hS' hR' hl' hlen' hls' hst'
def zz_jc : Instr → List zz_V → Option (Bool × List zz_V)
  | .goto _, st => some (true, st)
  | .ifnull _, .inr (.inr (.inl _)) :: r => some (false, r)
  | .ifnull _, .inr (.inr (.inr 0)) :: r => some (true, r)
  | .ifnonnull _, .inr (.inr (.inl _)) :: r => some (true, r)
  | .ifnonnull _, .inr (.inr (.inr 0)) :: r => some (false, r)
  | _, _ => none
def zz_j1 (code : List zz_C) (j : Nat) (st : List zz_V) : Option (Nat × List zz_V) := match code[j]? with
  | some e => match zz_jc e.2.1 st with
    | some (true, r) => some (e.2.2.2.getD 0 0, r)
    | some (false, r) => some (j + 1, r)
    | none => none
  | none => none
/-- a jump: goto; null or not -/
theorem zz_jp {j' : Nat} {st' : List zz_V} (h : zz_j1 P.code j st = some (j', st')) (k : zz_G X d P j' ls st' σ Post) : zz_G X d P j ls st σ Post := by
  intro p e s m args below meth c H locs lm hok hx hb hml hr hlk hown hts hE hS hR hl hlen hls hst
  unfold zz_j1 at h
  cases he : P.code[j]? with
  | none => rw [he] at h; cases h
  | some en =>
    rw [he] at h
    dsimp only at h
    obtain ⟨pc, ins, len, ts⟩ := en
    obtain ⟨r1, r2, r3, r4, r5⟩ := zz_row hok he
    rw [r5]
    dsimp only at h r1 r2 r3 r4 ⊢
    have go := fun st2 (hst2 : ∀ v ∈ st2, zz_ok X v) (hst' : st' = st2) => k p e s m args below meth c H locs lm hok hx hb hml hr hlk hown hts hE hS hR hl hlen hls (by rw [hst']; exact hst2)
    unfold zz_jc at h
    split at h
    · rename_i b r hj
      split at hj
      · cases hj
        cases h
        simp only [zz_ck, Bool.and_eq_true, decide_eq_true_eq] at r3
        obtain ⟨rfl, h2⟩ := r3
        exact lv_goto hx hb r1 (zz_tgt h2) (go _ hst rfl)
      · cases hj
      · cases hj
        cases h
        simp only [zz_ck, Bool.and_eq_true, decide_eq_true_eq] at r3
        obtain ⟨rfl, h2⟩ := r3
        exact lv_ifnullN hx hb r1 (zz_tgt h2) (go _ (List.forall_mem_cons.mp hst).2 rfl)
      · cases hj
        cases h
        simp only [zz_ck, Bool.and_eq_true, decide_eq_true_eq] at r3
        obtain ⟨rfl, h2⟩ := r3
        exact lv_ifnonnull hx hb r1 (zz_tgt h2) (go _ (List.forall_mem_cons.mp hst).2 rfl)
      · cases hj
      · cases hj
    · rename_i r hj
      split at hj
      · cases hj
      · cases hj
        cases h
        simp only [zz_ck, Bool.and_eq_true, decide_eq_true_eq] at r3
        obtain ⟨rfl, h2⟩ := r3
        refine lv_ifnull hx hb r1 ?_
        rw [← r2 rfl]
        exact go _ (List.forall_mem_cons.mp hst).2 rfl
      · cases hj
      · cases hj
      · cases hj
        cases h
        simp only [zz_ck, Bool.and_eq_true, decide_eq_true_eq] at r3
        obtain ⟨rfl, h2⟩ := r3
        refine lv_ifnonnullN hx hb r1 ?_
        rw [← r2 rfl]
        exact go _ (List.forall_mem_cons.mp hst).2 rfl
      · cases hj
    · cases h
def zz_bc : Instr → List zz_V → Option (Prop × Prop × List zz_V)
  | .ifCond .eq _, .inl x :: r => some (x = 0, x ≠ 0, r)
  | .ifCond .ne _, .inl x :: r => some (x ≠ 0, x = 0, r)
  | .ifCond .lt _, .inl x :: r => some (x < 0, 0 ≤ x, r)
  | .ifCond .ge _, .inl x :: r => some (0 ≤ x, x < 0, r)
  | .ifCond .gt _, .inl x :: r => some (0 < x, x ≤ 0, r)
  | .ifCond .le _, .inl x :: r => some (x ≤ 0, 0 < x, r)
  | .if_icmp .eq _, .inl y :: .inl x :: r => some (x = y, x ≠ y, r)
  | .if_icmp .ne _, .inl y :: .inl x :: r => some (x ≠ y, x = y, r)
  | .if_icmp .lt _, .inl y :: .inl x :: r => some (x < y, y ≤ x, r)
  | .if_icmp .ge _, .inl y :: .inl x :: r => some (y ≤ x, x < y, r)
  | .if_icmp .gt _, .inl y :: .inl x :: r => some (y < x, x ≤ y, r)
  | .if_icmp .le _, .inl y :: .inl x :: r => some (x ≤ y, y < x, r)
  | _, _ => none
def zz_b1 (code : List zz_C) (j : Nat) (st : List zz_V) : Option (Prop × Prop × Nat × List zz_V) := match code[j]? with
  | some e => match zz_bc e.2.1 st with
    | some (ct, cf, r) => some (ct, cf, e.2.2.2.getD 0 0, r)
    | none => none
  | none => none
theorem zz_iz : zz_in 0 := ⟨by omega, by omega⟩
theorem zz_z0 : Int32.ofInt 0 = 0 := by decide
/-- a branch -/
theorem zz_br {ct cf : Prop} {t : Nat} {r : List zz_V} (h : zz_b1 P.code j st = some (ct, cf, t, r)) (kt : ct → zz_G X d P t ls r σ Post) (kf : cf → zz_G X d P (j + 1) ls r σ Post) : zz_G X d P j ls st σ Post := by
  intro p e s m args below meth c H locs lm hok hx hb hml hr hlk hown hts hE hS hR hl hlen hls hst
  unfold zz_b1 at h
  cases he : P.code[j]? with
  | none => rw [he] at h; cases h
  | some en =>
    rw [he] at h
    dsimp only at h
    obtain ⟨pc, ins, len, ts⟩ := en
    obtain ⟨r1, r2, r3, r4, r5⟩ := zz_row hok he
    rw [r5]
    dsimp only at h r1 r2 r3 r4 ⊢
    have go := fun (ht : ct) (hst2 : ∀ v ∈ r, zz_ok X v) => kt ht p e s m args below meth c H locs lm hok hx hb hml hr hlk hown hts hE hS hR hl hlen hls hst2
    have gf := fun (hf : cf) (hst2 : ∀ v ∈ r, zz_ok X v) => kf hf p e s m args below meth c H locs lm hok hx hb hml hr hlk hown hts hE hS hR hl hlen hls hst2
    unfold zz_bc at h
    split at h
    · rename_i ct' cf' r' hj
      cases h
      split at hj
      · cases hj
        simp only [zz_ck, Bool.and_eq_true, decide_eq_true_eq] at r3
        obtain ⟨rfl, h2⟩ := r3
        obtain ⟨o1, o2⟩ := List.forall_mem_cons.mp hst
        refine lv_if_eq hx hb r1 (zz_tgt h2) (fun z => go ((zz_eq0 o1 zz_iz).mp (by rw [zz_z0]; exact z)) o2) (fun z => ?_)
        rw [← r2 rfl]
        exact gf (fun q => z ((zz_eq0 o1 zz_iz).mpr q |>.trans zz_z0)) o2
      · cases hj
        simp only [zz_ck, Bool.and_eq_true, decide_eq_true_eq] at r3
        obtain ⟨rfl, h2⟩ := r3
        obtain ⟨o1, o2⟩ := List.forall_mem_cons.mp hst
        refine lv_if_ne hx hb r1 (zz_tgt h2) (fun z => go (fun q => z ((zz_eq0 o1 zz_iz).mpr q |>.trans zz_z0)) o2) (fun z => ?_)
        rw [← r2 rfl]
        exact gf ((zz_eq0 o1 zz_iz).mp (by rw [zz_z0]; exact z)) o2
      · cases hj
        simp only [zz_ck, Bool.and_eq_true, decide_eq_true_eq] at r3
        obtain ⟨rfl, h2⟩ := r3
        obtain ⟨o1, o2⟩ := List.forall_mem_cons.mp hst
        refine lv_if_lt hx hb r1 (zz_tgt h2) (fun z => go ((zz_lt0 o1 zz_iz).mp (by rw [zz_z0]; exact z)) o2) (fun z => ?_)
        rw [← r2 rfl]
        exact gf (Int.not_lt.mp (fun q => z (by have := (zz_lt0 o1 zz_iz).mpr q; rw [zz_z0] at this; exact this))) o2
      · cases hj
        simp only [zz_ck, Bool.and_eq_true, decide_eq_true_eq] at r3
        obtain ⟨rfl, h2⟩ := r3
        obtain ⟨o1, o2⟩ := List.forall_mem_cons.mp hst
        refine lv_if_ge hx hb r1 (zz_tgt h2) (fun z => go ((zz_le0 zz_iz o1).mp (by rw [zz_z0]; exact z)) o2) (fun z => ?_)
        rw [← r2 rfl]
        exact gf (Int.not_le.mp (fun q => z (by have := (zz_le0 zz_iz o1).mpr q; rw [zz_z0] at this; exact this))) o2
      · cases hj
        simp only [zz_ck, Bool.and_eq_true, decide_eq_true_eq] at r3
        obtain ⟨rfl, h2⟩ := r3
        obtain ⟨o1, o2⟩ := List.forall_mem_cons.mp hst
        refine lv_if_gt hx hb r1 (zz_tgt h2) (fun z => go ((zz_lt0 zz_iz o1).mp (by rw [zz_z0]; exact z)) o2) (fun z => ?_)
        rw [← r2 rfl]
        exact gf (Int.not_lt.mp (fun q => z (by have := (zz_lt0 zz_iz o1).mpr q; rw [zz_z0] at this; exact this))) o2
      · cases hj
        simp only [zz_ck, Bool.and_eq_true, decide_eq_true_eq] at r3
        obtain ⟨rfl, h2⟩ := r3
        obtain ⟨o1, o2⟩ := List.forall_mem_cons.mp hst
        refine lv_if_le hx hb r1 (zz_tgt h2) (fun z => go ((zz_le0 o1 zz_iz).mp (by rw [zz_z0]; exact z)) o2) (fun z => ?_)
        rw [← r2 rfl]
        exact gf (Int.not_le.mp (fun q => z (by have := (zz_le0 o1 zz_iz).mpr q; rw [zz_z0] at this; exact this))) o2
      · cases hj
        simp only [zz_ck, Bool.and_eq_true, decide_eq_true_eq] at r3
        obtain ⟨rfl, h2⟩ := r3
        obtain ⟨o1, o2, o3⟩ := zz_fm2 hst
        refine lv_icmp_eq hx hb r1 (zz_tgt h2) (fun z => go ((zz_eq0 o2 o1).mp z) o3) (fun z => ?_)
        rw [← r2 rfl]
        exact gf (fun q => z ((zz_eq0 o2 o1).mpr q)) o3
      · cases hj
        simp only [zz_ck, Bool.and_eq_true, decide_eq_true_eq] at r3
        obtain ⟨rfl, h2⟩ := r3
        obtain ⟨o1, o2, o3⟩ := zz_fm2 hst
        refine lv_icmp_ne hx hb r1 (zz_tgt h2) (fun z => go (fun q => z ((zz_eq0 o2 o1).mpr q)) o3) (fun z => ?_)
        rw [← r2 rfl]
        exact gf ((zz_eq0 o2 o1).mp z) o3
      · cases hj
        simp only [zz_ck, Bool.and_eq_true, decide_eq_true_eq] at r3
        obtain ⟨rfl, h2⟩ := r3
        obtain ⟨o1, o2, o3⟩ := zz_fm2 hst
        refine lv_icmp_lt hx hb r1 (zz_tgt h2) (fun z => go ((zz_lt0 o2 o1).mp z) o3) (fun z => ?_)
        rw [← r2 rfl]
        exact gf (Int.not_lt.mp (fun q => z ((zz_lt0 o2 o1).mpr q))) o3
      · cases hj
        simp only [zz_ck, Bool.and_eq_true, decide_eq_true_eq] at r3
        obtain ⟨rfl, h2⟩ := r3
        obtain ⟨o1, o2, o3⟩ := zz_fm2 hst
        refine lv_icmp_ge hx hb r1 (zz_tgt h2) (fun z => go ((zz_le0 o1 o2).mp z) o3) (fun z => ?_)
        rw [← r2 rfl]
        exact gf (Int.not_le.mp (fun q => z ((zz_le0 o1 o2).mpr q))) o3
      · cases hj
        simp only [zz_ck, Bool.and_eq_true, decide_eq_true_eq] at r3
        obtain ⟨rfl, h2⟩ := r3
        obtain ⟨o1, o2, o3⟩ := zz_fm2 hst
        refine lv_icmp_gt hx hb r1 (zz_tgt h2) (fun z => go ((zz_lt0 o1 o2).mp z) o3) (fun z => ?_)
        rw [← r2 rfl]
        exact gf (Int.not_lt.mp (fun q => z ((zz_lt0 o1 o2).mpr q))) o3
      · cases hj
        simp only [zz_ck, Bool.and_eq_true, decide_eq_true_eq] at r3
        obtain ⟨rfl, h2⟩ := r3
        obtain ⟨o1, o2, o3⟩ := zz_fm2 hst
        refine lv_icmp_le hx hb r1 (zz_tgt h2) (fun z => go ((zz_le0 o2 o1).mp z) o3) (fun z => ?_)
        rw [← r2 rfl]
        exact gf (Int.not_le.mp (fun q => z ((zz_le0 o2 o1).mpr q))) o3
      · cases hj
    · cases h
/-- a switch by a table: the place in it is known -/
def zz_w1 (code : List zz_C) (j : Nat) (st : List zz_V) : Option (Int × Int × List Nat × List zz_V) := match code[j]? with
  | some e => match e.2.1, st with
    | .tableswitch _ lo _ _, .inl x :: r => some (x, lo, e.2.2.2, r)
    | _, _ => none
  | none => none
theorem zz_w1_of {x lo : Int} {ts : List Nat} {r : List zz_V} (h : zz_w1 P.code j st = some (x, lo, ts, r)) : ∃ pc len dflt hi offs, P.code[j]? = some (pc, .tableswitch dflt lo hi offs, len, ts) ∧ st = .inl x :: r := by
  unfold zz_w1 at h
  cases he : P.code[j]? with
  | none => rw [he] at h; cases h
  | some en =>
    obtain ⟨pc, ins, len, ts'⟩ := en
    rw [he] at h
    dsimp only at h
    split at h
    · cases h
      exact ⟨_, _, _, _, _, rfl, rfl⟩
    · cases h
theorem zz_swI {x lo : Int} {ts : List Nat} {r : List zz_V} (k t : Nat) (h : zz_w1 P.code j st = some (x, lo, ts, r)) (hx0 : x = lo + k) (ht : ts[k + 1]? = some t) (kk : zz_G X d P t ls r σ Post) : zz_G X d P j ls st σ Post := by
  intro p e s m args below meth c H locs lm hok hx hb hml hr hlk hown hts hE hS hR hl hlen hls hst
  obtain ⟨pc, len, dflt, hi, offs, he, rfl⟩ := zz_w1_of h
  obtain ⟨r1, r2, r3, r4, r5⟩ := zz_row hok he
  rw [r5]
  simp only [zz_ck, Bool.and_eq_true, decide_eq_true_eq] at r3
  obtain ⟨⟨⟨h1, h2⟩, h3⟩, h4⟩ := r3
  obtain ⟨o1, o2⟩ := List.forall_mem_cons.mp hst
  have hk : k < offs.size := by
    have := (List.getElem?_eq_some_iff.mp ht).1
    omega
  have h5 := List.all_eq_true.mp h4 k (List.mem_range.mpr hk)
  have e1 : ts.getD (k + 1) 0 = t := by rw [List.getD_eq_getElem?_getD, ht]; rfl
  rw [e1] at h5
  have hxi : (Int32.ofInt x).toInt = x := zz_tid o1
  have e2 : (x - lo).toNat = k := by omega
  refine lv_tableIn hx hb r1 (by rw [hxi]; omega) (by rw [hxi]; omega) (off := offs.getD k 0) ?_ (zz_tgt h5) (kk p e s m args below meth c H locs lm hok hx hb hml hr hlk hown hts hE hS hR hl hlen hls o2)
  rw [hxi, e2, Array.getD_eq_getD_getElem?, Array.getElem?_eq_getElem hk]
  rfl
theorem zz_swO {x lo : Int} {ts : List Nat} {r : List zz_V} (t : Nat) (h : zz_w1 P.code j st = some (x, lo, ts, r)) (hx0 : x < lo ∨ lo + ts.length ≤ x + 1) (ht : ts[0]? = some t) (kk : zz_G X d P t ls r σ Post) : zz_G X d P j ls st σ Post := by
  intro p e s m args below meth c H locs lm hok hx hb hml hr hlk hown hts hE hS hR hl hlen hls hst
  obtain ⟨pc, len, dflt, hi, offs, he, rfl⟩ := zz_w1_of h
  obtain ⟨r1, r2, r3, r4, r5⟩ := zz_row hok he
  rw [r5]
  simp only [zz_ck, Bool.and_eq_true, decide_eq_true_eq] at r3
  obtain ⟨⟨⟨h1, h2⟩, h3⟩, h4⟩ := r3
  obtain ⟨o1, o2⟩ := List.forall_mem_cons.mp hst
  have e1 : ts.getD 0 0 = t := by rw [List.getD_eq_getElem?_getD, ht]; rfl
  rw [e1] at h3
  have hxi : (Int32.ofInt x).toInt = x := zz_tid o1
  exact lv_tableOut hx hb r1 (by rw [hxi]; omega) (zz_tgt h3) (kk p e s m args below meth c H locs lm hok hx hb hml hr hlk hown hts hE hS hR hl hlen hls o2)
/-- a switch by a list -/
theorem zz_lu {x : Int} {r : List zz_V} {pc len : Nat} {dflt : Int} {ps : Array (Int × Int)} {ts : List Nat} (off : Int) (t : Nat) (he : P.code[j]? = some (pc, .lookupswitch dflt ps, len, ts)) (ho : Op.lookupswitch.offset ps.toList dflt x = off) (ht : zz_tg P.code pc off t = true) (kk : zz_G X d P t ls r σ Post) : zz_G X d P j ls (zI x :: r) σ Post := by
  intro p e s m args below meth c H locs lm hok hx hb hml hr hlk hown hts hE hS hR hl hlen hls hst
  obtain ⟨r1, r2, r3, r4, r5⟩ := zz_row hok he
  rw [r5]
  simp only [zz_ck, Bool.and_eq_true] at r3
  obtain ⟨⟨h1, h2⟩, h3⟩ := r3
  obtain ⟨o1, o2⟩ := List.forall_mem_cons.mp hst
  have hxi : (Int32.ofInt x).toInt = x := zz_tid o1
  exact lv_lookup hx hb r1 h1 (by rw [hxi]; exact ho) (zz_tgt ht) (kk p e s m args below meth c H locs lm hok hx hb hml hr hlk hown hts hE hS hR hl hlen hls o2)
end ZR
end
section
/-! ARRAYS, ENDS, CALLS over zz_G; contracts zz_T. -/
def zz_eb (i : Nat) : Bool := match zz_K i with
  | (53, n, q) => (List.range n).all (fun k => decide (i + q / 100 + q % 100 * k < zz_n) && decide (zz_K (i + q / 100 + q % 100 * k) = (9, 0, 0)))
  | (54, n, q) => (List.range n).all (fun k => decide (i + q / 100 + q % 100 * k < zz_n) && decide (zz_K (i + q / 100 + q % 100 * k) = (5, 60, 0)))
  | (55, n, q) => (List.range n).all (fun k => decide (i + q / 100 + q % 100 * k < zz_n) && decide (zz_K (i + q / 100 + q % 100 * k) = (2, 0, 0)))
  | _ => true
theorem zz_eb_b : (List.range zz_n).all zz_eb = true := by decide +kernel
/-- what an array of cells holds: its kind -/
def zz_el (t : Nat) : Nat × Nat := match t with
  | 53 => (9, 0)
  | 54 => (5, 60)
  | _ => (2, 0)
theorem zz_elOk {i t n q k : Nat} (hi : i < zz_n) (hK : zz_K i = (t, n, q)) (ht : 53 ≤ t ∧ t < 56) (hk : k < n) : i + q / 100 + q % 100 * k < zz_n ∧ zz_K (i + q / 100 + q % 100 * k) = ((zz_el t).1, (zz_el t).2, 0) := by
  have h1 := List.all_eq_true.mp zz_eb_b i (List.mem_range.mpr hi)
  unfold zz_eb at h1
  rw [hK] at h1
  obtain ⟨h2, h3⟩ := ht
  have h4 : t = 53 ∨ t = 54 ∨ t = 55 := by omega
  rcases h4 with rfl | rfl | rfl
  · have h5 := List.all_eq_true.mp h1 k (List.mem_range.mpr hk)
    simpa [zz_el] using h5
  · have h5 := List.all_eq_true.mp h1 k (List.mem_range.mpr hk)
    simpa [zz_el] using h5
  · have h5 := List.all_eq_true.mp h1 k (List.mem_range.mpr hk)
    simpa [zz_el] using h5
theorem zz_vin {i : Int} {n : Nat} (hi : zz_in i) (h : 0 ≤ i ∧ i < n) : vp_in (Int32.ofInt i) n ∧ (Int32.ofInt i).toNatClampNeg = i.toNat := by
  refine ⟨vp_in_iff.mpr (by rw [zz_tid hi]; exact h), ?_⟩
  show (Int32.ofInt i).toInt.toNat = _
  rw [zz_tid hi]
def zz_a1 (code : List zz_C) (j : Nat) (st : List zz_V) : Option (Int × Nat × Nat × List zz_V) := match code[j]? with
  | some e => match e.2.1, st with
    | .iaload, .inl i :: .inr (.inr (.inl (50, n, _, a))) :: r => some (i, n, a, r)
    | .baload, .inl i :: .inr (.inr (.inl (51, n, _, a))) :: r => some (i, n, a, r)
    | .baload, .inl i :: .inr (.inr (.inl (52, n, _, a))) :: r => some (i, n, a, r)
    | _, _ => none
  | none => none
theorem zz_ce50 {X : zz_X} {σ : zz_M} {a t p q : Nat} (h1 : 50 ≤ t) (h2 : t < 53) : zz_ce X σ a (t, p, q) = .inl (X.dA (t - 50), p, .inl (fun i => Int32.ofInt (σ.2 a i))) := by
  unfold zz_ce
  rw [if_neg (by dsimp only; omega), if_pos (by dsimp only; omega)]
theorem zz_ce53 {X : zz_X} {σ : zz_M} {a t p q : Nat} (h1 : 53 ≤ t) : zz_ce X σ a (t, p, q) = .inl (X.dA (t - 50), p, .inr (.inr (.inr (.inr (fun i => some (a + q / 100 + q % 100 * i)))))) := by
  unfold zz_ce
  rw [if_neg (by dsimp only; omega), if_neg (by dsimp only; omega)]
theorem zz_ws_sa {X : zz_X} {σ : zz_M} {i t p q k : Nat} {v : Int} {f : Nat → Int32} (hi : i < zz_n) (hK : zz_K i = (t, p, q)) (h1 : 50 ≤ t) (h2 : t < 53) (hf : f = upd (fun j => Int32.ofInt (σ.2 (X.b + i) j)) k (Int32.ofInt v)) :
    (zz_ws X σ).set i (X.b + i, .inl (X.dA (t - 50), p, .inl f)) = zz_ws X (zz_sa σ (X.b + i) k v) := by
  refine List.ext_getElem? fun j => ?_
  by_cases hj : j < zz_n
  · by_cases e : j = i
    · subst e
      have ef : f = fun i => Int32.ofInt ((zz_sa σ (X.b + j) k v).2 (X.b + j) i) := by
        rw [hf]
        funext z
        unfold zz_sa upd
        by_cases ez : z = k
        · simp [ez]
        · simp [ez]
      rw [List.getElem?_set_self (by rw [zz_ws_len]; exact hj), zz_ws_at X _ hj, hK, zz_ce50 h1 h2, ef]
    · rw [List.getElem?_set_ne (Ne.symm e), zz_ws_at X _ hj, zz_ws_at X _ hj]
      have e2 : X.b + j ≠ X.b + i := by omega
      have e3 : ∀ K, zz_ce X (zz_sa σ (X.b + i) k v) (X.b + j) K = zz_ce X σ (X.b + j) K := by
        intro K
        have e4 : (zz_sa σ (X.b + i) k v).2 (X.b + j) = σ.2 (X.b + j) := by
          funext z
          unfold zz_sa
          simp only [e2, false_and, if_false]
        unfold zz_ce
        rw [e4]
        rfl
      rw [e3]
  · rw [List.getElem?_eq_none (by rw [List.length_set, zz_ws_len]; omega), List.getElem?_eq_none (by rw [zz_ws_len]; omega)]
theorem zz_R_sa {X : zz_X} {σ : zz_M} {H H1 : Heap} {a i : Nat} {v : Int} (hR : zz_R X σ H) (hv : zz_in v) (hP : va_P X.D zz_cl (zz_ws X (zz_sa σ a i v)) H1) : zz_R X (zz_sa σ a i v) H1 := by
  refine ⟨hP, hR.2.1, fun a' i' => ?_⟩
  unfold zz_sa
  dsimp only
  split
  · exact hv
  · exact hR.2.2 a' i'
section ZA
variable {X : zz_X} {d : Nat} {P : zz_P} {j : Nat} {ls st : List zz_V} {σ : zz_M} {Post : Option zz_V → zz_M → Prop}
/-- a number out of an array -/
theorem zz_ald {i : Int} {n a : Nat} {r : List zz_V} (h : zz_a1 P.code j st = some (i, n, a, r)) (hi : 0 ≤ i ∧ i < n) (k : zz_G X d P (j + 1) ls (zI (σ.2 a i.toNat) :: r) σ Post) : zz_G X d P j ls st σ Post := by
  intro p e s m args below meth c H locs lm hok hx hb hml hr hlk hown hts hE hS hR hl hlen hls hst
  unfold zz_a1 at h
  cases he : P.code[j]? with
  | none => rw [he] at h; cases h
  | some en =>
    rw [he] at h
    dsimp only at h
    obtain ⟨pc, ins, len, ts⟩ := en
    obtain ⟨r1, r2, r3, r4, r5⟩ := zz_row hok he
    rw [r5]
    dsimp only at h r1 r2 r3 r4 ⊢
    split at h
    · rename_i n' q' a' r'
      cases h
      dsimp only [zz_ck] at r3
      have el := of_decide_eq_true r3
      subst el
      obtain ⟨o1, o2, o3⟩ := zz_fm2 hst
      obtain ⟨i0, hi0, ha, hK⟩ := o2
      dsimp only at ha hK
      subst ha
      have hat := zz_ws_at X σ hi0
      rw [hK, zz_ce50 (by omega) (by omega)] at hat
      obtain ⟨v1, v2⟩ := zz_vin o1 hi
      refine va_iald (D := X.D) (cl := zz_cl) (ws := zz_ws X σ) hx hb hE.1 hR.1 i0 0 hat rfl v1 r1 ?_
      have r2' : zz_pc P (j + 1) = pc + 1 := r2 rfl
      rw [← r2', v2]
      exact k p e s m args below meth c H locs lm hok hx hb hml hr hlk hown hts hE hS hR hl hlen hls (zz_all1 (P := zz_ok X) (hR.2.2 _ _) o3)
    · rename_i n' q' a' r'
      cases h
      dsimp only [zz_ck] at r3
      have el := of_decide_eq_true r3
      subst el
      obtain ⟨o1, o2, o3⟩ := zz_fm2 hst
      obtain ⟨i0, hi0, ha, hK⟩ := o2
      dsimp only at ha hK
      subst ha
      have hat := zz_ws_at X σ hi0
      rw [hK, zz_ce50 (by omega) (by omega)] at hat
      obtain ⟨v1, v2⟩ := zz_vin o1 hi
      refine va_bald (D := X.D) (cl := zz_cl) (ws := zz_ws X σ) hx hb hE.1 hR.1 i0 1 hat rfl v1 r1 ?_
      have r2' : zz_pc P (j + 1) = pc + 1 := r2 rfl
      rw [← r2', v2]
      exact k p e s m args below meth c H locs lm hok hx hb hml hr hlk hown hts hE hS hR hl hlen hls (zz_all1 (P := zz_ok X) (hR.2.2 _ _) o3)
    · rename_i n' q' a' r'
      cases h
      dsimp only [zz_ck] at r3
      have el := of_decide_eq_true r3
      subst el
      obtain ⟨o1, o2, o3⟩ := zz_fm2 hst
      obtain ⟨i0, hi0, ha, hK⟩ := o2
      dsimp only at ha hK
      subst ha
      have hat := zz_ws_at X σ hi0
      rw [hK, zz_ce50 (by omega) (by omega)] at hat
      obtain ⟨v1, v2⟩ := zz_vin o1 hi
      refine va_zald (D := X.D) (cl := zz_cl) (ws := zz_ws X σ) hx hb hE.1 hR.1 i0 2 hat rfl v1 r1 ?_
      have r2' : zz_pc P (j + 1) = pc + 1 := r2 rfl
      rw [← r2', v2]
      exact k p e s m args below meth c H locs lm hok hx hb hml hr hlk hown hts hE hS hR hl hlen hls (zz_all1 (P := zz_ok X) (hR.2.2 _ _) o3)
    · cases h
def zz_q1 (code : List zz_C) (j : Nat) (st : List zz_V) : Option (Int × Nat × Nat × Nat × Nat × List zz_V) := match code[j]? with
  | some e => match e.2.1, st with
    | .aaload, .inl i :: .inr (.inr (.inl (t, n, q, a))) :: r => match Nat.ble 53 t && Nat.ble t 55 with
      | true => some (i, t, n, q, a, r)
      | false => none
    | _, _ => none
  | none => none
/-- a cell out of an array -/
theorem zz_aad {i : Int} {t n q a : Nat} {r : List zz_V} (h : zz_q1 P.code j st = some (i, t, n, q, a, r)) (hi : 0 ≤ i ∧ i < n) (k : zz_G X d P (j + 1) ls (zP (zz_el t).1 (zz_el t).2 0 (a + q / 100 + q % 100 * i.toNat) :: r) σ Post) : zz_G X d P j ls st σ Post := by
  intro p e s m args below meth c H locs lm hok hx hb hml hr hlk hown hts hE hS hR hl hlen hls hst
  unfold zz_q1 at h
  cases he : P.code[j]? with
  | none => rw [he] at h; cases h
  | some en =>
    rw [he] at h
    dsimp only at h
    obtain ⟨pc, ins, len, ts⟩ := en
    obtain ⟨r1, r2, r3, r4, r5⟩ := zz_row hok he
    rw [r5]
    dsimp only at h r1 r2 r3 r4 ⊢
    split at h
    · split at h
      · rename_i hb2
        cases h
        rw [Bool.and_eq_true] at hb2
        have b1 := Nat.le_of_ble_eq_true hb2.1
        have b2 := Nat.le_of_ble_eq_true hb2.2
        dsimp only [zz_ck] at r3
        have el := of_decide_eq_true r3
        subst el
        obtain ⟨o1, o2, o3⟩ := zz_fm2 hst
        obtain ⟨i0, hi0, ha, hK⟩ := o2
        dsimp only at ha hK
        subst ha
        have hat := zz_ws_at X σ hi0
        rw [hK, zz_ce53 b1] at hat
        obtain ⟨v1, v2⟩ := zz_vin o1 hi
        obtain ⟨g1, g2⟩ := zz_elOk hi0 hK ⟨b1, by omega⟩ (k := i.toNat) (by omega)
        have hty : ∃ C, (zz_tys X)[t - 50]? = some (X.dA (t - 50), .object C) := by
          have ht2 : t = 53 ∨ t = 54 ∨ t = 55 := by omega
          rcases ht2 with rfl | rfl | rfl
          · exact ⟨_, rfl⟩
          · exact ⟨_, rfl⟩
          · exact ⟨_, rfl⟩
        obtain ⟨C, hty⟩ := hty
        refine va_aldq (D := X.D) (cl := zz_cl) (ws := zz_ws X σ) hx hb hE.1 hR.1 i0 (t - 50) hat hty v1 r1 ?_
        have r2' : zz_pc P (j + 1) = pc + 1 := r2 rfl
        rw [← r2', v2]
        exact k p e s m args below meth c H locs lm hok hx hb hml hr hlk hown hts hE hS hR hl hlen hls (zz_all1 (P := zz_ok X) ⟨i0 + q / 100 + q % 100 * i.toNat, g1, by dsimp only; omega, g2⟩ o3)
      · cases h
    · cases h
def zz_as1 (code : List zz_C) (j : Nat) (st : List zz_V) : Option (Int × Int × Nat × Nat × List zz_V) := match code[j]? with
  | some e => match e.2.1, st with
    | .iastore, .inl v :: .inl i :: .inr (.inr (.inl (50, n, _, a))) :: r => some (v, i, n, a, r)
    | .bastore, .inl v :: .inl i :: .inr (.inr (.inl (51, n, _, a))) :: r => some (zz_i2b v, i, n, a, r)
    | .bastore, .inl v :: .inl i :: .inr (.inr (.inl (52, n, _, a))) :: r => some (zz_i2z v, i, n, a, r)
    | _, _ => none
  | none => none
theorem zz_i2b_of (v : Int) : Int32.ofInt (zz_i2b v) = vp_nar .byte (Int32.ofInt v) := by
  unfold zz_i2b
  rw [Int32.ofInt_toInt, vp_nar_byte]
theorem zz_i2z_of (v : Int) : Int32.ofInt (zz_i2z v) = vp_nar .boolean (Int32.ofInt v) := by
  unfold zz_i2z
  rw [Int32.ofInt_toInt]
/-- a number into an array -/
theorem zz_ast {v i : Int} {n a : Nat} {r : List zz_V} (h : zz_as1 P.code j st = some (v, i, n, a, r)) (hi : 0 ≤ i ∧ i < n) (k : zz_G X d P (j + 1) ls r (zz_sa σ a i.toNat v) Post) : zz_G X d P j ls st σ Post := by
  intro p e s m args below meth c H locs lm hok hx hb hml hr hlk hown hts hE hS hR hl hlen hls hst
  unfold zz_as1 at h
  cases he : P.code[j]? with
  | none => rw [he] at h; cases h
  | some en =>
    rw [he] at h
    dsimp only at h
    obtain ⟨pc, ins, len, ts⟩ := en
    obtain ⟨r1, r2, r3, r4, r5⟩ := zz_row hok he
    rw [r5]
    dsimp only at h r1 r2 r3 r4 ⊢
    split at h
    · rename_i n' q' a' r'
      cases h
      dsimp only [zz_ck] at r3
      have el := of_decide_eq_true r3
      subst el
      obtain ⟨o0, o1, o4⟩ := zz_fm2 hst
      obtain ⟨o2, o3⟩ := List.forall_mem_cons.mp o4
      obtain ⟨i0, hi0, ha, hK⟩ := o2
      dsimp only at ha hK
      subst ha
      have hat := zz_ws_at X σ hi0
      rw [hK, zz_ce50 (by omega) (by omega)] at hat
      obtain ⟨v1, v2⟩ := zz_vin o1 hi
      refine va_iast (D := X.D) (cl := zz_cl) (ws := zz_ws X σ) hx hb hE.1 hR.1 (zz_ws_D X σ) hS i0 0 hat rfl v1 r1 (fun H1 locs1 hP1 hD1 hS1 => ?_)
      rw [v2] at hP1
      have hP2 := hP1
      rw [zz_ws_sa (t := 50) (k := i.toNat) (v := v) hi0 hK (by omega) (by omega) (rfl)] at hP2
      have r2' : zz_pc P (j + 1) = pc + 1 := r2 rfl
      rw [← r2']
      exact k p e s m args below meth c H1 locs1 lm hok hx hb hml hr hlk hown hts hE hS1 (zz_R_sa hR (o0) hP2) hl hlen hls o3
    · rename_i n' q' a' r'
      cases h
      dsimp only [zz_ck] at r3
      have el := of_decide_eq_true r3
      subst el
      obtain ⟨o0, o1, o4⟩ := zz_fm2 hst
      obtain ⟨o2, o3⟩ := List.forall_mem_cons.mp o4
      obtain ⟨i0, hi0, ha, hK⟩ := o2
      dsimp only at ha hK
      subst ha
      have hat := zz_ws_at X σ hi0
      rw [hK, zz_ce50 (by omega) (by omega)] at hat
      obtain ⟨v1, v2⟩ := zz_vin o1 hi
      refine va_bast (D := X.D) (cl := zz_cl) (ws := zz_ws X σ) hx hb hE.1 hR.1 (zz_ws_D X σ) hS i0 1 hat rfl v1 r1 (fun H1 locs1 hP1 hD1 hS1 => ?_)
      rw [v2] at hP1
      have hP2 := hP1
      rw [zz_ws_sa (t := 51) (k := i.toNat) (v := zz_i2b _) hi0 hK (by omega) (by omega) (by rw [zz_i2b_of])] at hP2
      have r2' : zz_pc P (j + 1) = pc + 1 := r2 rfl
      rw [← r2']
      exact k p e s m args below meth c H1 locs1 lm hok hx hb hml hr hlk hown hts hE hS1 (zz_R_sa hR (zz_i32 _) hP2) hl hlen hls o3
    · rename_i n' q' a' r'
      cases h
      dsimp only [zz_ck] at r3
      have el := of_decide_eq_true r3
      subst el
      obtain ⟨o0, o1, o4⟩ := zz_fm2 hst
      obtain ⟨o2, o3⟩ := List.forall_mem_cons.mp o4
      obtain ⟨i0, hi0, ha, hK⟩ := o2
      dsimp only at ha hK
      subst ha
      have hat := zz_ws_at X σ hi0
      rw [hK, zz_ce50 (by omega) (by omega)] at hat
      obtain ⟨v1, v2⟩ := zz_vin o1 hi
      refine va_zast (D := X.D) (cl := zz_cl) (ws := zz_ws X σ) hx hb hE.1 hR.1 (zz_ws_D X σ) hS i0 2 hat rfl v1 r1 (fun H1 locs1 hP1 hD1 hS1 => ?_)
      rw [v2] at hP1
      have hP2 := hP1
      rw [zz_ws_sa (t := 52) (k := i.toNat) (v := zz_i2z _) hi0 hK (by omega) (by omega) (by rw [zz_i2z_of])] at hP2
      have r2' : zz_pc P (j + 1) = pc + 1 := r2 rfl
      rw [← r2']
      exact k p e s m args below meth c H1 locs1 lm hok hx hb hml hr hlk hown hts hE hS1 (zz_R_sa hR (zz_i32 _) hP2) hl hlen hls o3
    · cases h
/-- a truth value into a field -/
def zz_z1 (code : List zz_C) (j : Nat) (st : List zz_V) : Option (Int × Nat × Nat × List zz_V) := match code[j]? with
  | some e => match e.2.1, e.2.2.2, st with
    | .putfield _, f :: _, .inl v :: .inr (.inr (.inl (t, p, q, a))) :: r => match Nat.beq (f / 100) t, zz_rf f p q, zz_isZ f with
      | true, none, true => some (v, f, a, r)
      | _, _, _ => none
    | _, _, _ => none
  | none => none
theorem zz_ptz {v : Int} {f a : Nat} {r : List zz_V} (h : zz_z1 P.code j st = some (v, f, a, r)) (hv : v = 0 ∨ v = 1) (k : zz_G X d P (j + 1) ls r (zz_sf σ f a v) Post) : zz_G X d P j ls st σ Post := by
  intro p e s m args below meth c H locs lm hok hx hb hml hr hlk hown hts hE hS hR hl hlen hls hst
  unfold zz_z1 at h
  cases he : P.code[j]? with
  | none => rw [he] at h; cases h
  | some en =>
    rw [he] at h
    dsimp only at h
    obtain ⟨pc, ins, len, ts⟩ := en
    obtain ⟨r1, r2, r3, r4, r5⟩ := zz_row hok he
    rw [r5]
    dsimp only at h r1 r2 r3 r4 ⊢
    split at h
    · rename_i i f' ts' v' t p1 q1 a' r'
      split at h
      · rename_i hbt hrf hz
        cases h
        simp only [zz_ck, Bool.and_eq_true, decide_eq_true_eq] at r3
        obtain ⟨⟨⟨el, h13⟩, hnf⟩, hfin⟩ := r3
        subst el
        have h13 : f / 100 < 13 := h13
        have hnf : f % 100 < zz_nf (f / 100) := hnf
        have hfin : (zz_fT f).2.2.2 = false := hfin
        have ht := Nat.eq_of_beq_eq_true hbt
        subst ht
        obtain ⟨o0, o1, o3⟩ := zz_fm2 hst
        obtain ⟨i0, hi0, ha, hK⟩ := o1
        dsimp only at ha hK
        subst ha
        obtain ⟨C, T, ty, hc, hin, hty, hnm⟩ := zz_cl_at h13
        have hlink := hts _ (r4 (.fieldLink P.y.cls i (zz_fT f).1 (zz_fT f).2.1 (zz_fT f).2.2.1) List.mem_cons_self)
        have hpty := zz_fieldTy h13 hnf hrf
        rw [hz] at hpty
        rw [zz_fT_at hc] at hlink hfin hpty
        have hat := zz_ws_at X σ hi0
        rw [hK, zz_ce_o h13] at hat
        refine va_put (D := X.D) (cl := zz_cl) (ws := zz_ws X σ) (ci := f / 100) (v := .int (Int32.ofInt v)) (ty := .boolean) hx hb hts hin ty hty hnm hown hE.1 hR.1 (zz_ws_D X σ) hS i0 hat hc (f % 100) hnf hlink (fun _ h => h) hfin hpty ?_ ?_ (by rw [zz_fs_len]; exact hnf) r1 (fun H1 locs1 hP1 hD1 hS1 => ?_)
        · rcases hv with rfl | rfl <;> decide
        · rcases hv with rfl | rfl <;> decide
        · rw [zz_ws_sf hi0 hK h13 rfl hrf] at hP1
          rw [← r2 rfl]
          exact k p e s m args below meth c H1 locs1 lm hok hx hb hml hr hlk hown hts hE hS1 (zz_R_sf hR o0 hP1) hl hlen hls o3
      · cases h
    · cases h
def zz_d1 (code : List zz_C) (j : Nat) (st : List zz_V) : Option (Int × Int × List zz_V) := match code[j]? with
  | some e => match e.2.1, st with
    | .idiv, .inl y :: .inl x :: r => some (y, zz_div x y, r)
    | .irem, .inl y :: .inl x :: r => some (y, zz_rem x y, r)
    | _, _ => none
  | none => none
theorem zz_dv {y z : Int} {r : List zz_V} (h : zz_d1 P.code j st = some (y, z, r)) (hy : y ≠ 0) (k : zz_G X d P (j + 1) ls (zI z :: r) σ Post) : zz_G X d P j ls st σ Post := by
  intro p e s m args below meth c H locs lm hok hx hb hml hr hlk hown hts hE hS hR hl hlen hls hst
  unfold zz_d1 at h
  cases he : P.code[j]? with
  | none => rw [he] at h; cases h
  | some en =>
    rw [he] at h
    dsimp only at h
    obtain ⟨pc, ins, len, ts⟩ := en
    obtain ⟨r1, r2, r3, r4, r5⟩ := zz_row hok he
    rw [r5]
    dsimp only at h r1 r2 r3 r4 ⊢
    split at h
    · rename_i y' x' r'
      cases h
      dsimp only [zz_ck] at r3
      have el := of_decide_eq_true r3
      subst el
      obtain ⟨o1, o2, o3⟩ := zz_fm2 hst
      refine lv_idiv hx hb r1 (fun z => hy ((zz_eq0 o1 zz_iz).mp (z.trans zz_z0.symm))) ?_
      have r2' : zz_pc P (j + 1) = pc + 1 := r2 rfl
      rw [← r2']
      have k2 := k p e s m args below meth c H locs lm hok hx hb hml hr hlk hown hts hE hS hR hl hlen hls (zz_all1 (P := zz_ok X) (zz_i32 _) o3)
      have ev := zz_b_of (fun x y => x / y) x' y
      simp only [List.map_cons, zz_toV, zz_div, ev] at k2
      exact k2
    · rename_i y' x' r'
      cases h
      dsimp only [zz_ck] at r3
      have el := of_decide_eq_true r3
      subst el
      obtain ⟨o1, o2, o3⟩ := zz_fm2 hst
      refine lv_irem hx hb r1 (fun z => hy ((zz_eq0 o1 zz_iz).mp (z.trans zz_z0.symm))) ?_
      have r2' : zz_pc P (j + 1) = pc + 1 := r2 rfl
      rw [← r2']
      have k2 := k p e s m args below meth c H locs lm hok hx hb hml hr hlk hown hts hE hS hR hl hlen hls (zz_all1 (P := zz_ok X) (zz_i32 _) o3)
      have ev := zz_b_of (fun x y => x - x / y * y) x' y
      simp only [List.map_cons, zz_toV, zz_rem, ev] at k2
      exact k2
    · cases h
end ZA
end
section
/-! ENDS, CONTRACTS, CALLS. -/
section ZE
variable {X : zz_X} {d : Nat} {P : zz_P} {j : Nat} {ls st : List zz_V} {σ : zz_M} {Post : Option zz_V → zz_M → Prop}
def zz_i1 (code : List zz_C) (j : Nat) (st : List zz_V) : Option Int := match code[j]? with
  | some e => match e.2.1, st with
    | .ireturn, [.inl v] => some v
    | _, _ => none
  | none => none
/-- a whole number, a truth value is the answer -/
theorem zz_ri {v : Int} (h : zz_i1 P.code j st = some v) (hrt : P.ret = some .int ∨ (P.ret = some .boolean ∧ (v = 0 ∨ v = 1))) (hp : Post (some (zI v)) σ) : zz_G X d P j ls st σ Post := by
  intro p e s m args below meth c H locs lm hok hx hb hml hr hlk hown hts hE hS hR hl hlen hls hst
  unfold zz_i1 at h
  cases he : P.code[j]? with
  | none => rw [he] at h; cases h
  | some en =>
    rw [he] at h
    dsimp only at h
    obtain ⟨pc, ins, len, ts⟩ := en
    obtain ⟨r1, r2, r3, r4, r5⟩ := zz_row hok he
    rw [r5]
    dsimp only at h r1 r2 r3 r4 ⊢
    split at h
    · cases h
      dsimp only [zz_ck] at r3
      have el := of_decide_eq_true r3
      subst el
      have o1 : zz_in v := hst _ List.mem_cons_self
      have hq : ∀ t : State, t.heap = H → s.WarmedH t.vm → zz_Q X Post args s (.returned (some (.int (Int32.ofInt v)))) t := fun t ht _ => ⟨⟨some (zI v), σ, rfl, fun w hw => by cases hw; exact o1, hp, by rw [ht]; exact hR⟩, hS.F ht⟩
      rcases hrt with hrt | ⟨hrt, hv⟩
      · exact W.iret hx hb (hr.trans hrt) hq hS.2.2 r1 hlk
      · refine W.zret hx hb (hr.trans hrt) ?_ hq hS.2.2 r1 hlk
        rcases hv with rfl | rfl <;> decide
    · cases h
def zz_i2 (code : List zz_C) (j : Nat) (st : List zz_V) : Option zz_V := match code[j]? with
  | some e => match e.2.1, st with
    | .areturn, [.inr (.inr (.inl q))] => some (.inr (.inr (.inl q)))
    | .areturn, [.inr (.inr (.inr 0))] => some (.inr (.inr (.inr 0)))
    | _, _ => none
  | none => none
theorem zz_ra {v : zz_V} {n : String} (h : zz_i2 P.code j st = some v) (hrt : P.ret = some (.object n)) (hp : Post (some v) σ) : zz_G X d P j ls st σ Post := by
  intro p e s m args below meth c H locs lm hok hx hb hml hr hlk hown hts hE hS hR hl hlen hls hst
  unfold zz_i2 at h
  cases he : P.code[j]? with
  | none => rw [he] at h; cases h
  | some en =>
    rw [he] at h
    dsimp only at h
    obtain ⟨pc, ins, len, ts⟩ := en
    obtain ⟨r1, r2, r3, r4, r5⟩ := zz_row hok he
    rw [r5]
    dsimp only at h r1 r2 r3 r4 ⊢
    split at h
    · rename_i q
      cases h
      dsimp only [zz_ck] at r3
      have el := of_decide_eq_true r3
      subst el
      have o1 := hst _ List.mem_cons_self
      exact W.aret hx hb (hr.trans hrt) (Or.inl ⟨_, rfl⟩) (Or.inr ⟨q.2.2.2, rfl⟩) (fun t ht _ => ⟨⟨some (.inr (.inr (.inl q))), σ, rfl, fun w hw => by cases hw; exact o1, hp, by rw [ht]; exact hR⟩, hS.F ht⟩) hS.2.2 r1 hlk
    · cases h
      dsimp only [zz_ck] at r3
      have el := of_decide_eq_true r3
      subst el
      have o1 := hst _ List.mem_cons_self
      exact W.aret hx hb (hr.trans hrt) (Or.inl ⟨_, rfl⟩) (Or.inl rfl) (fun t ht _ => ⟨⟨some zN, σ, rfl, fun w hw => by cases hw; exact o1, hp, by rw [ht]; exact hR⟩, hS.F ht⟩) hS.2.2 r1 hlk
    · cases h
def zz_i3 (code : List zz_C) (j : Nat) (st : List zz_V) : Option Unit := match code[j]? with
  | some e => match e.2.1, st with
    | .return_, [] => some ()
    | _, _ => none
  | none => none
theorem zz_rv (h : zz_i3 P.code j st = some ()) (hrt : P.ret = none) (hp : Post none σ) : zz_G X d P j ls st σ Post := by
  intro p e s m args below meth c H locs lm hok hx hb hml hr hlk hown hts hE hS hR hl hlen hls hst
  unfold zz_i3 at h
  cases he : P.code[j]? with
  | none => rw [he] at h; cases h
  | some en =>
    rw [he] at h
    dsimp only at h
    obtain ⟨pc, ins, len, ts⟩ := en
    obtain ⟨r1, r2, r3, r4, r5⟩ := zz_row hok he
    rw [r5]
    dsimp only at h r1 r2 r3 r4 ⊢
    split at h
    · dsimp only [zz_ck] at r3
      have el := of_decide_eq_true r3
      subst el
      exact W.vret hx hb (hr.trans hrt) (fun t ht _ => ⟨⟨none, σ, rfl, (fun w hw => by cases hw), hp, by rw [ht]; exact hR⟩, hS.F ht⟩) hS.2.2 r1 hlk
    · cases h
theorem zz_E.kept {U : State} {H H1 : Heap} (h : zz_E X U H) (hz : H.size ≤ H1.size) (hq : ∀ a : Nat, a < H.size → ¬ zz_A X a → H1[a]? = H[a]?) : zz_E X U H1 := by
  obtain ⟨h1, h2, h3, h4, h5, h6⟩ := h
  exact ⟨h1, fun i hi => ⟨(h2 i hi).1.kept hq, (h2 i hi).2.1.kept hq, (h2 i hi).2.2.1.kept hq, (h2 i hi).2.2.2.kept hq⟩, h3, h4.kept hq, h5.kept hq, Nat.le_trans h6 hz⟩
theorem zz_E.warm {s U : State} {H : Heap} (hW : s.WarmedH U.vm) (h : zz_E X s H) : zz_E X U H := by
  obtain ⟨h1, h2, h3, h4, h5, h6⟩ := h
  have ha := hW.alike
  exact ⟨va_K.moved ha h1, fun i hi => ⟨(h2 i hi).1.moved ha, (h2 i hi).2.1.moved ha, (h2 i hi).2.2.1.moved ha, (h2 i hi).2.2.2.moved ha⟩, ⟨fun i q hq => vk_R.warm hW (h3.1 i q hq), fun i q hq => va_Nw.warmM hW (h3.2 i q hq)⟩, h4.moved ha, h5.moved ha, h6⟩
theorem zz_E.same {u U : State} {H : Heap} (hv : U.vm = u.vm) (h : zz_E X u H) : zz_E X U H := by
  obtain ⟨h1, h2, h3, h4, h5, h6⟩ := h
  have ha : u.vm.Alike U.vm := by rw [hv]; exact Vm.Alike.refl u.vm
  exact ⟨va_K.moved ha h1, fun i hi => ⟨(h2 i hi).1.moved ha, (h2 i hi).2.1.moved ha, (h2 i hi).2.2.1.moved ha, (h2 i hi).2.2.2.moved ha⟩, ⟨fun i q hq => vk_R.same hv (h3.1 i q hq), fun i q hq => va_Nw.same rfl hv.symm (h3.2 i q hq)⟩, h4.moved ha, h5.moved ha, h6⟩
/-- a method that can be called: the tables' words of it -/
def zz_okC (P : zz_P) (stat : Bool) (t n : Nat) : Prop := Cond.code P.y P.bytes P.maxL P.ret ∈ zz_tb ∧ Cond.initialized P.y.cls ∈ zz_tb ∧ (zz_mn P.no = P.y ∧ zz_isS P.no = stat) ∧ plainName P.y.cls = true ∧ (P.y.cls ≠ "java/lang/invoke/MethodHandle" ∧ P.y.cls ≠ "java/lang/invoke/VarHandle") ∧ zz_pc P 0 = 0 ∧ (match stat with
  | true => Cond.static P.y ∈ zz_tb ∧ (parseMethodDescriptor P.y.desc).map (fun d => d.parameters.length) = some n
  | false => Cond.instanceMethod P.y ∈ zz_tb ∧ Cond.selects P.y.cls P.y P.y ∈ zz_tb ∧ (parseMethodDescriptor P.y.desc).map (fun d => d.parameters.length + 1) = some n ∧ zz_cl[t]?.map (fun c => c.1) = some P.y.cls)
def zz_th (stat : Bool) (t : Nat) (as : List zz_V) : Bool := match stat with
  | true => true
  | false => match as with
    | .inr (.inr (.inl (t', _, _, _))) :: _ => Nat.beq t' t
    | _ => false
def zz_Pc (X : zz_X) (as : List zz_V) (σ : zz_M) : Array Value → State → Prop := fun v U => v = (as.map (zz_toV X)).toArray ∧ (∀ w ∈ as, zz_ok X w) ∧ zz_R X σ U.heap ∧ zz_E X U U.heap
/-- a method's contract -/
def zz_T (X : zz_X) (d : Nat) (P : zz_P) (as : List zz_V) (σ : zz_M) (Post : Option zz_V → zz_M → Prop) : Prop :=
  ∃ (stat : Bool) (t n : Nat), zz_okC P stat t n ∧ as.length = n ∧ zz_th stat t as = true ∧ Met X.l P.y (Cond.code P.y P.bytes P.maxL P.ret :: zz_tb) (zz_room d) (zz_Pc X as σ) (zz_Q X Post) 0 0 (zz_A X)
def zz_sl : List zz_V → List zz_V
  | [] => []
  | .inr (.inl i) :: r => .inr (.inl i) :: zU :: zz_sl r
  | v :: r => v :: zz_sl r
def zz_ent (as : List zz_V) (n : Nat) : List zz_V := zz_sl as ++ List.replicate (n - (zz_sl as).length) zU
theorem zz_cat1 (X : zz_X) (v : zz_V) : (zz_toV X v).category = match v with
  | .inr (.inl _) => 2
  | _ => 1 := by
  rcases v with i | i | q | n
  · rfl
  · rfl
  · rfl
  · match n with
    | 0 => rfl
    | 1 => rfl
    | n + 2 => rfl
theorem zz_sl_len (X : zz_X) : ∀ as : List zz_V, (lg_sl (as.map (zz_toV X))).length = (zz_sl as).length
  | [] => rfl
  | v :: r => by
    have ih := zz_sl_len X r
    have e := zz_cat1 X v
    show (lg_sl (zz_toV X v :: r.map (zz_toV X))).length = _
    unfold lg_sl at ih ⊢
    rw [List.flatMap_cons, List.length_append, ih]
    rcases v with i | i | q | n
    · rw [if_neg (by rw [e]; exact (by decide : ¬ (1 : Nat) = 2))]; show 1 + _ = (zz_sl r).length + 1; omega
    · rw [if_pos (by rw [e])]; show 2 + _ = (zz_sl r).length + 1 + 1; omega
    · rw [if_neg (by rw [e]; exact (by decide : ¬ (1 : Nat) = 2))]; show 1 + _ = (zz_sl r).length + 1; omega
    · rw [if_neg (by rw [e]; exact (by decide : ¬ (1 : Nat) = 2))]; show 1 + _ = (zz_sl r).length + 1; omega
theorem zz_sl_at (X : zz_X) : ∀ (as : List zz_V) (i k : Nat) (v : zz_V), (zz_sl as)[k]? = some v → v ≠ zU → (i + k, zz_toV X v) ∈ lv_args i (as.map (zz_toV X))
  | [], i, k, v, h, _ => by simp [zz_sl] at h
  | w :: r, i, k, v, h, hv => by
    have ih := zz_sl_at X r
    have e := zz_cat1 X w
    show (i + k, zz_toV X v) ∈ lv_args i (zz_toV X w :: r.map (zz_toV X))
    unfold lv_args
    rcases w with x | x | q | n
    · rw [e]
      cases k with
      | zero => cases h; exact List.mem_cons_self
      | succ k => exact List.mem_cons_of_mem _ (by have := ih (i + 1) k v h hv; rw [show i + (k + 1) = i + 1 + k by omega]; exact this)
    · rw [e]
      match k, h with
      | 0, h => cases h; exact List.mem_cons_self
      | 1, h => cases h; exact absurd rfl hv
      | k + 2, h => exact List.mem_cons_of_mem _ (by have := ih (i + 2) k v h hv; rw [show i + (k + 2) = i + 2 + k by omega]; exact this)
    · rw [e]
      cases k with
      | zero => cases h; exact List.mem_cons_self
      | succ k => exact List.mem_cons_of_mem _ (by have := ih (i + 1) k v h hv; rw [show i + (k + 1) = i + 1 + k by omega]; exact this)
    · rw [e]
      cases k with
      | zero => cases h; exact List.mem_cons_self
      | succ k => exact List.mem_cons_of_mem _ (by have := ih (i + 1) k v h hv; rw [show i + (k + 1) = i + 1 + k by omega]; exact this)
theorem zz_sl_mem : ∀ (as : List zz_V) (v : zz_V), v ∈ zz_sl as → v = zU ∨ v ∈ as
  | [], v, h => by cases h
  | w :: r, v, h => by
    have ih := zz_sl_mem r v
    rcases w with x | x | q | n
    · rcases List.mem_cons.mp h with h | h
      · exact Or.inr (by rw [h]; exact List.mem_cons_self)
      · exact (ih h).imp id (List.mem_cons_of_mem _)
    · rcases List.mem_cons.mp h with h | h
      · exact Or.inr (by rw [h]; exact List.mem_cons_self)
      · rcases List.mem_cons.mp h with h | h
        · exact Or.inl h
        · exact (ih h).imp id (List.mem_cons_of_mem _)
    · rcases List.mem_cons.mp h with h | h
      · exact Or.inr (by rw [h]; exact List.mem_cons_self)
      · exact (ih h).imp id (List.mem_cons_of_mem _)
    · rcases List.mem_cons.mp h with h | h
      · exact Or.inr (by rw [h]; exact List.mem_cons_self)
      · exact (ih h).imp id (List.mem_cons_of_mem _)
/-- from the entry: a contract -/
theorem zz_mk {as : List zz_V} {stat : Bool} {t n : Nat} (hok : zz_okP P) (hc : zz_okC P stat t n) (hn : as.length = n) (hth : zz_th stat t as = true) (hle : (zz_sl as).length ≤ P.maxL) (hG : zz_G X d P 0 (zz_ent as P.maxL) [] σ Post) : zz_T X d P as σ Post := by
  refine ⟨stat, t, n, hc, hn, hth, Met.ofW (cc := P.bytes) (maxL := P.maxL) (ret := P.ret) hc.2.2.2.1 rfl ?_⟩
  intro p e s m args below meth c s₁ B hml hv
  obtain ⟨rfl, hoks, hR, hE⟩ := hv
  have hts : ∀ w ∈ zz_tb, w.before (as.map (zz_toV X)).toArray s = true := fun w hw => atoms_spec (ws := Cond.code P.y P.bytes P.maxL P.ret :: zz_tb) B.pre w (List.mem_cons_of_mem _ hw)
  have hown : s.vm.findClass P.y.cls = some m.cls := findClass_of_methodNamed B.named
  have hl := lv_entry (as.map (zz_toV X)) (n := P.maxL) (by rw [zz_sl_len]; exact hle)
  rw [lg_entry_eq]
  have hlen : (zz_ent as P.maxL).length = P.maxL := by
    unfold zz_ent
    rw [List.length_append, List.length_replicate]
    omega
  have hl2 : lv_has ((lg_sl (as.map (zz_toV X)) ++ List.replicate (P.maxL - (lg_sl (as.map (zz_toV X))).length) Slot.unset).toArray) P.maxL (zz_lv X (zz_ent as P.maxL)) := by
    refine ⟨hl.1, hl.2.1, fun q hq => hl.2.2 q ?_⟩
    obtain ⟨v, h1, h2, h3⟩ := zz_lv_of hq
    unfold zz_ent at h1
    by_cases hk : q.1 < (zz_sl as).length
    · rw [List.getElem?_append_left hk] at h1
      have := zz_sl_at X as 0 q.1 v h1 h2
      rw [Nat.zero_add, ← h3] at this
      exact this
    · rw [List.getElem?_append_right (by omega)] at h1
      have := List.mem_of_getElem? h1
      exact absurd (List.eq_of_mem_replicate this) h2
  have hls : ∀ v ∈ zz_ent as P.maxL, zz_ok X v := by
    intro v hv
    unfold zz_ent at hv
    rcases List.mem_append.mp hv with h | h
    · rcases zz_sl_mem as v h with h | h
      · rw [h]; exact Or.inl (by omega)
      · exact hoks v h
    · rw [List.eq_of_mem_replicate h]; exact Or.inl (by omega)
  have := hG p e s m (as.map (zz_toV X)).toArray below meth c s.heap [] _ hok B.exec B.bytes hml B.returns B.notSynchronized hown hts hE va_S.rf hR hl2 hlen hls (by intro v hv; cases hv)
  rw [hc.2.2.2.2.2.1] at this
  exact this
end ZE
theorem zz_good {y : MethodName} {b : ByteArray} {n : Nat} {r : Option FieldType} (h : Cond.code y b n r ∈ zz_tb) : GoodIn zz_tb (Cond.code y b n r :: zz_tb) := by
  intro w hw
  rcases List.mem_cons.mp hw with rfl | hw
  · exact ⟨h, Or.inl rfl⟩
  · exact ⟨hw, good_of_word (List.mem_filter.mp hw).2⟩
end
section
/-! CALLS over zz_G. -/
def zz_take : Nat → List zz_V → List zz_V → Option (List zz_V × List zz_V)
  | 0, acc, st => some (acc, st)
  | n + 1, acc, v :: st => zz_take n (v :: acc) st
  | _ + 1, _, [] => none
theorem zz_take_ok : ∀ (n : Nat) (acc st as r : List zz_V), zz_take n acc st = some (as, r) → as.reverse ++ r = acc.reverse ++ st ∧ as.length = acc.length + n
  | 0, acc, st, as, r, h => by
    cases h
    exact ⟨rfl, rfl⟩
  | n + 1, acc, [], as, r, h => by cases h
  | n + 1, acc, v :: st, as, r, h => by
    obtain ⟨h1, h2⟩ := zz_take_ok n (v :: acc) st as r h
    rw [List.reverse_cons, List.append_assoc] at h1
    refine ⟨h1, ?_⟩
    rw [h2, List.length_cons]
    omega
def zz_cat : List zz_V → Nat
  | [] => 0
  | .inr (.inl _) :: r => 2 + zz_cat r
  | _ :: r => 1 + zz_cat r
theorem zz_cat_of (X : zz_X) : ∀ r : List zz_V, ((r.map (zz_toV X)).map fun v => v.category).sum = zz_cat r
  | [] => rfl
  | w :: r => by
    have ih := zz_cat_of X r
    have e := zz_cat1 X w
    simp only [List.map_cons, List.sum_cons]
    rw [ih, e]
    rcases w with i | i | q | n <;> rfl
section ZC
variable {X : zz_X} {d d' : Nat} {P P' : zz_P} {j : Nat} {ls st : List zz_V} {σ : zz_M} {Post Post' : Option zz_V → zz_M → Prop}
theorem zz_back {p : Program} {e : Env} {s : State} {m : MethodId} {args : Array Value} {below : List Frame} {meth : Method} {c : Code} {H : Heap} {locs : List Loc} {lm : Array Slot} {as r : List zz_V} {a2 : Array Value} {pc : Nat}
    (hok : zz_okP P) (hx : p.tables.exec = Jvm.exec) (hb : c.code = P.bytes) (hml : c.maxLocals = P.maxL) (hr : meth.sig.returnType = P.ret) (hlk : meth.locks = false) (hown : s.vm.findClass P.y.cls = some m.cls) (hts : ∀ w ∈ zz_tb, w.before args s = true) (hE : zz_E X s s.heap) (hS : va_S (zz_A X) s.heap H locs) (hl : lv_has lm P.maxL (zz_lv X ls)) (hlen : ls.length = P.maxL) (hls : ∀ v ∈ ls, zz_ok X v) (hrest : ∀ v ∈ r, zz_ok X v) (hpc : zz_pc P (j + 1) = pc + 3)
    (hrun : va_Run p X.l e (zz_room d) s m args below meth c H locs 0 0 0 0 (F0 m pc lm (st.map (zz_toV X))) (r.map (zz_toV X)) (zz_Q X Post' a2) (zz_A X))
    (k : ∀ ro σ', Post' ro σ' → zz_G X d P (j + 1) ls (ro.toList ++ r) σ' Post) :
    W p X.l e (zz_room d) s m args below meth c H locs 0 0 (MQ below (zz_Q X Post) args s 0 0 (zz_A X)) (F0 m pc lm (st.map (zz_toV X))) := by
  intro T hT X0
  obtain ⟨v, st₀, t, T', L, h0, X', hL, e1, e2, ⟨⟨ro, σ', hv, hokr, hp, hR'⟩, hF⟩, st'⟩ := hrun T hT X0
  have hv : v = ro.map (zz_toV X) := by injection hv
  subst hv
  obtain ⟨hz, hk⟩ := hF
  rw [h0] at hz hk
  have hS' : va_S (zz_A X) s.heap T'.heap (locs ++ L) := ⟨Nat.le_trans hS.1 (by rw [e1]; exact hz), fun q h1 h2 => by rw [e1, hk q (Nat.lt_of_lt_of_le h1 hS.1) h2]; exact hS.2.1 q h1 h2, fun q hq => by
    rcases List.mem_append.mp hq with h | h
    · exact hS.2.2 q h
    · exact hL q h⟩
  have hst' : ∀ w ∈ ro.toList ++ r, zz_ok X w := by
    intro w hw
    rcases List.mem_append.mp hw with h | h
    · exact hokr w (by simpa using h)
    · exact hrest w h
  obtain ⟨t2, a1, b1⟩ := k ro σ' hp p e s m args below meth c T'.heap (locs ++ L) lm hok hx hb hml hr hlk hown hts hE hS' (by rw [e1]; exact hR') hl hlen hls hst' T' rfl X'
  refine ⟨t2, st' t2 ?_, b1⟩
  have ef : (ro.map (zz_toV X)).toList ++ r.map (zz_toV X) = (ro.toList ++ r).map (zz_toV X) := by
    cases ro <;> simp
  rw [hpc] at a1
  rw [ef]
  exact a1
def zz_v1 (code : List zz_C) (j : Nat) : Option Nat := match code[j]? with
  | some e => match e.2.1, e.2.2.2 with
    | .invokevirtual _, [n] => match zz_isS n with
      | false => some n
      | true => none
    | _, _ => none
  | none => none
theorem zz_Pc_pre {s U : State} {H : Heap} {locs : List Loc} {as : List zz_V} (hE : zz_E X s s.heap) (hS : va_S (zz_A X) s.heap H locs) (hR : zz_R X σ H) (hoks : ∀ w ∈ as, zz_ok X w) (hU : U.heap = H) (hW : s.WarmedH U.vm) : zz_Pc X as σ (as.map (zz_toV X)).toArray U := by
  refine ⟨rfl, hoks, by rw [hU]; exact hR, ?_⟩
  rw [hU]
  exact zz_E.warm hW (zz_E.kept hE hS.1 hS.2.1)
theorem zz_Pc_blind {as : List zz_V} : FrameBlind (zz_Pc X as σ) := by
  intro a U g mk h
  obtain ⟨h1, h2, h3, h4⟩ := h
  exact ⟨h1, h2, h3, zz_E.same (u := U) (U := U.calling g mk a) rfl h4⟩
/-- a call of a method of ours -/
theorem zz_cv {n : Nat} {as r : List zz_V} (h : zz_v1 P.code j = some P'.no) (hst0 : zz_take n [] st = some (as, r)) (hT : zz_T X d' P' as σ Post') (hd : d' < d) (hcat : zz_cat r ≤ 8) (hmx : P'.maxL ≤ 20) (k : ∀ ro σ', Post' ro σ' → zz_G X d P (j + 1) ls (ro.toList ++ r) σ' Post) : zz_G X d P j ls st σ Post := by
  intro p e s m args below meth c H locs lm hok hx hb hml hr hlk hown hts hE hS hR hl hlen hls hst
  obtain ⟨e1, e2⟩ := zz_take_ok n [] st as r hst0
  obtain ⟨stat, t, n', hc, hn, hth, hM⟩ := hT
  obtain ⟨c1, c2, c3, c4, c5, c6, c7⟩ := hc
  unfold zz_v1 at h
  cases he : P.code[j]? with
  | none => rw [he] at h; cases h
  | some en =>
    rw [he] at h
    dsimp only at h
    obtain ⟨pc, ins, len, ts⟩ := en
    obtain ⟨r1, r2, r3, r4, r5⟩ := zz_row hok he
    rw [r5]
    dsimp only at h r1 r2 r3 r4 ⊢
    split at h
    · rename_i idx mno
      split at h
      case h_2 => cases h
      rename_i hnS
      have hno : mno = P'.no := by injection h
      subst hno
      dsimp only [zz_ck] at r3
      have el := of_decide_eq_true r3
      subst el
      have hlink := r4 (.methodLink P.y.cls idx (zz_mn P'.no)) List.mem_cons_self
      rw [c3.1] at hlink
      simp only [List.reverse_nil, List.nil_append] at e1
      have hoks : ∀ w ∈ as, zz_ok X w := fun w hw => hst w (by rw [← e1]; exact List.mem_append_left _ (List.mem_reverse.mpr hw))
      have hrest : ∀ w ∈ r, zz_ok X w := fun w hw => hst w (by rw [← e1]; exact List.mem_append_right _ hw)
      have r2' : zz_pc P (j + 1) = pc + 3 := r2 rfl
      cases stat with
      | true =>
        rw [c3.2] at hnS
        cases hnS
      | false =>
        obtain ⟨c7, c8, c9, c10⟩ := c7
        match as, hth, hn with
        | .inr (.inr (.inl (t', p1, q1, a))) :: As, hth, hn =>
          have ht : t' = t := Nat.eq_of_beq_eq_true hth
          subst ht
          obtain ⟨i0, hi0, ha, hK⟩ := hoks _ List.mem_cons_self
          dsimp only at ha hK
          subst ha
          have h13 : t' < 13 := by
            rcases hct : zz_cl[t']? with _ | q
            · rw [hct] at c10; cases c10
            · exact (List.getElem?_eq_some_iff.mp hct).1
          obtain ⟨C, Tt, ty, hcc, hin, hty, hnm⟩ := zz_cl_at h13
          rw [hcc] at c10
          have hC : C = P'.y.cls := by injection c10
          subst hC
          have hat := zz_ws_at X σ hi0
          rw [hK, zz_ce_o h13] at hat
          have hstack : st.map (zz_toV X) = (As.map (zz_toV X)).reverse ++ .ref (X.b + i0) :: r.map (zz_toV X) := by
            rw [← e1]
            simp [zz_toV, List.map_reverse]
          refine zz_back (as := .inr (.inr (.inl (t', p1, q1, X.b + i0))) :: As) (r := r) hok hx hb hml hr hlk hown hts hE hS hl hlen hls hrest r2' (va_runV (nL := P.maxL) (As := As.map (zz_toV X)) (rest := r.map (zz_toV X)) (C := P'.y.cls) (b := X.b + i0) (n := As.length) ⟨hx, hb, hml, hown, hts⟩ hM ⟨⟨rfl, rfl, ?_, ?_, pay_in hts (zz_good c1), List.mem_cons_self, hts _ c1, hts _ c2, c5, ?_, hts _ hlink⟩, hts _ c7, hts _ c8⟩ ⟨zz_Pc_blind, va_recv hE.1 hR.1 hcc hat, fun U hU hW => zz_Pc_pre (as := .inr (.inr (.inl (t', p1, q1, X.b + i0))) :: As) hE hS hR hoks hU hW⟩ rfl (List.length_map ..) hl.1 hstack (lv_room (by rw [zz_cat_of]; exact hcat)) r1 ⟨Nat.zero_le _, Nat.zero_le _⟩) k
          · show d' + 1 ≤ d
            omega
          · show 8 + (P'.maxL + 11) + 40 * d' ≤ 40 * d
            omega
          · intro sig hsig
            rw [hsig] at c9
            have : sig.parameters.length + 1 = n' := by injection c9
            simp only [List.length_cons] at hn
            omega
        | [], hth, _ => cases hth
        | .inl _ :: _, hth, _ => cases hth
        | .inr (.inl _) :: _, hth, _ => cases hth
        | .inr (.inr (.inr _)) :: _, hth, _ => cases hth
    · cases h
def zz_v2 (code : List zz_C) (j : Nat) : Option Nat := match code[j]? with
  | some e => match e.2.1, e.2.2.2 with
    | .invokestatic _, [n] => match zz_isS n with
      | true => some n
      | false => none
    | .invokestatic _, [n, _] => match zz_isS n with
      | true => some n
      | false => none
    | _, _ => none
  | none => none
theorem zz_cs {n : Nat} {as r : List zz_V} (h : zz_v2 P.code j = some P'.no) (hst0 : zz_take n [] st = some (as, r)) (hT : zz_T X d' P' as σ Post') (hd : d' < d) (hcat : zz_cat r ≤ 8) (hmx : P'.maxL ≤ 20) (k : ∀ ro σ', Post' ro σ' → zz_G X d P (j + 1) ls (ro.toList ++ r) σ' Post) : zz_G X d P j ls st σ Post := by
  intro p e s m args below meth c H locs lm hok hx hb hml hr hlk hown hts hE hS hR hl hlen hls hst
  obtain ⟨e1, e2⟩ := zz_take_ok n [] st as r hst0
  obtain ⟨stat, t, n', hc, hn, hth, hM⟩ := hT
  obtain ⟨c1, c2, c3, c4, c5, c6, c7⟩ := hc
  simp only [List.reverse_nil, List.nil_append] at e1
  have hoks : ∀ w ∈ as, zz_ok X w := fun w hw => hst w (by rw [← e1]; exact List.mem_append_left _ (List.mem_reverse.mpr hw))
  have hrest : ∀ w ∈ r, zz_ok X w := fun w hw => hst w (by rw [← e1]; exact List.mem_append_right _ hw)
  have hstack : st.map (zz_toV X) = (as.map (zz_toV X)).reverse ++ r.map (zz_toV X) := by
    rw [← e1]
    simp [List.map_reverse]
  have hroom : d' + 1 ≤ d ∧ 8 + (P'.maxL + 11) + 40 * d' ≤ 40 * d := by omega
  unfold zz_v2 at h
  cases he : P.code[j]? with
  | none => rw [he] at h; cases h
  | some en =>
    rw [he] at h
    dsimp only at h
    obtain ⟨pc, ins, len, ts⟩ := en
    obtain ⟨r1, r2, r3, r4, r5⟩ := zz_row hok he
    rw [r5]
    dsimp only at h r1 r2 r3 r4 ⊢
    split at h
    · rename_i idx mno
      split at h
      case h_2 => cases h
      rename_i hnS
      have hno : mno = P'.no := by injection h
      subst hno
      simp only [zz_ck, Bool.and_eq_true, decide_eq_true_eq] at r3
      obtain ⟨el, r3⟩ := r3
      subst el
      have hlink := r4 (.methodLink P.y.cls idx (zz_mn P'.no)) List.mem_cons_self
      rw [c3.1] at hlink
      have r2' : zz_pc P (j + 1) = pc + 3 := r2 rfl
      cases stat with
      | false =>
        rw [c3.2] at hnS
        cases hnS
      | true =>
        obtain ⟨c7, c8⟩ := c7
        refine zz_back (as := as) (r := r) hok hx hb hml hr hlk hown hts hE hS hl hlen hls hrest r2' (va_runS (nL := P.maxL) (As := as.map (zz_toV X)) (rest := r.map (zz_toV X)) (n := as.length) ⟨hx, hb, hml, hown, hts⟩ hM ⟨⟨rfl, rfl, hroom.1, hroom.2, pay_in hts (zz_good c1), List.mem_cons_self, hts _ c1, hts _ c2, c5, ?_, hts _ hlink⟩, hts _ c7⟩ ⟨zz_Pc_blind, fun U hU hW => zz_Pc_pre (as := as) hE hS hR hoks hU hW⟩ rfl (List.length_map ..) hl.1 hstack (lv_room (by rw [zz_cat_of]; exact hcat)) r1 ⟨Nat.zero_le _, Nat.zero_le _⟩) k
        intro sig hsig
        rw [hsig] at c8
        have : sig.parameters.length = n' := by injection c8
        omega
    · rename_i idx mno x
      split at h
      case h_2 => cases h
      rename_i hnS
      have hno : mno = P'.no := by injection h
      subst hno
      simp only [zz_ck, Bool.and_eq_true, decide_eq_true_eq] at r3
      obtain ⟨el, r3⟩ := r3
      subst el
      have hlink := hE.2.2.1.2 _ _ r3
      dsimp only at hlink
      rw [c3.1] at hlink
      have r2' : zz_pc P (j + 1) = pc + 3 := r2 rfl
      cases stat with
      | false =>
        rw [c3.2] at hnS
        cases hnS
      | true =>
        obtain ⟨c7, c8⟩ := c7
        refine zz_back (as := as) (r := r) hok hx hb hml hr hlk hown hts hE hS hl hlen hls hrest r2' (va_runSN (nL := P.maxL) (As := as.map (zz_toV X)) (rest := r.map (zz_toV X)) (n := as.length) ⟨hx, hb, hml, hown, hts⟩ hM ⟨⟨⟨rfl, rfl, hroom.1, hroom.2, pay_in hts (zz_good c1), List.mem_cons_self⟩, hts _ c1, hts _ c2, c5, ?_, va_Nw.use rfl hlink⟩, hts _ c7, trivial⟩ ⟨zz_Pc_blind, fun U hU hW => zz_Pc_pre (as := as) hE hS hR hoks hU hW⟩ rfl (List.length_map ..) hl.1 hstack (lv_room (by rw [zz_cat_of]; exact hcat)) r1 ⟨Nat.zero_le _, Nat.zero_le _⟩) k
        intro sig hsig
        rw [hsig] at c8
        have : sig.parameters.length = n' := by injection c8
        omega
    · cases h
end ZC
theorem zz_okS {P : zz_P} {n : Nat} (h : ∀ w ∈ [Cond.code P.y P.bytes P.maxL P.ret, Cond.initialized P.y.cls, Cond.static P.y], w ∈ zz_tb) (h3 : zz_mn P.no = P.y) (h4 : zz_isS P.no = true) (h5 : plainName P.y.cls = true) (h6 : P.y.cls ≠ "java/lang/invoke/MethodHandle" ∧ P.y.cls ≠ "java/lang/invoke/VarHandle") (h7 : zz_pc P 0 = 0) (h8 : (parseMethodDescriptor P.y.desc).map (fun d => d.parameters.length) = some n) : zz_okC P true 0 n :=
  ⟨h _ (List.Mem.head _), h _ (List.Mem.tail _ (List.Mem.head _)), ⟨h3, h4⟩, h5, h6, h7, h _ (List.Mem.tail _ (List.Mem.tail _ (List.Mem.head _))), h8⟩
theorem zz_okV {P : zz_P} {t n : Nat} (h : ∀ w ∈ [Cond.code P.y P.bytes P.maxL P.ret, Cond.initialized P.y.cls, Cond.instanceMethod P.y, Cond.selects P.y.cls P.y P.y], w ∈ zz_tb) (h3 : zz_mn P.no = P.y) (h4 : zz_isS P.no = false) (h5 : plainName P.y.cls = true) (h6 : P.y.cls ≠ "java/lang/invoke/MethodHandle" ∧ P.y.cls ≠ "java/lang/invoke/VarHandle") (h7 : zz_pc P 0 = 0) (h8 : (parseMethodDescriptor P.y.desc).map (fun d => d.parameters.length + 1) = some n) (h9 : zz_cl[t]?.map (fun c => c.1) = some P.y.cls) : zz_okC P false t n :=
  ⟨h _ (List.Mem.head _), h _ (List.Mem.tail _ (List.Mem.head _)), ⟨h3, h4⟩, h5, h6, h7, h _ (List.Mem.tail _ (List.Mem.tail _ (List.Mem.head _))), h _ (List.Mem.tail _ (List.Mem.tail _ (List.Mem.tail _ (List.Mem.head _)))), h8, h9⟩
end
section
/-! MEMBERS OF THE JDK: length, charAt of the texts; max, min, abs. -/
def zz_Q0 (v : Option Value) : Array Value → State → Outcome → State → Prop := fun _ st o t => o = .returned v ∧ t.heap = st.heap
def zz_no : Nat → Prop := fun _ => False
section ZJ
variable {p : Program} {l : Launch} {e : Env} {R : Room} {s : State} {m : MethodId} {args : Array Value} {below : List Frame} {meth : Method} {c : Code} {H : Heap} {locs : List Loc} {cells slots : Nat} {Q : State → Prop}
theorem zz_pcall {pc : Nat} {lm : Array Slot} {st0 rest : List Value} {v : Option Value} {a : Array Value} (hr : va_Run p l e R s m args below meth c H locs cells slots 0 0 (F0 m pc lm st0) rest (zz_Q0 v a) zz_no) (kk : W p l e R s m args below meth c H locs cells slots Q (F0 m (pc + 3) lm (v.toList ++ rest))) : W p l e R s m args below meth c H locs cells slots Q (F0 m pc lm st0) := by
  intro T hT X0
  obtain ⟨v', st₀, t, T', L, h0, X', hL, e1, e2, ⟨hv, hh⟩, st⟩ := hr T hT X0
  have hv : v' = v := by injection hv
  subst hv
  have hL0 : L = [] := by
    cases L with
    | nil => rfl
    | cons q r => exact (hL q List.mem_cons_self).elim
  subst hL0
  rw [List.append_nil] at X'
  obtain ⟨t2, a1, b1⟩ := kk T' (by rw [e1, hh, h0]) X'
  exact ⟨t2, st t2 a1, b1⟩
end ZJ
def zz_P0 (X : zz_X) (as : List Value) : Array Value → State → Prop := fun v U => v = as.toArray ∧ zz_E X U U.heap
theorem zz_P0_blind {X : zz_X} {as : List Value} : FrameBlind (zz_P0 X as) := fun a U g mk h => ⟨h.1, zz_E.same (u := U) (U := U.calling g mk a) rfl h.2⟩
theorem zz_P0_pre {X : zz_X} {s U : State} {H : Heap} {locs : List Loc} {as : List Value} (hE : zz_E X s s.heap) (hS : va_S (zz_A X) s.heap H locs) (hU : U.heap = H) (hW : s.WarmedH U.vm) : zz_P0 X as as.toArray U := by
  refine ⟨rfl, ?_⟩
  rw [hU]
  exact zz_E.warm hW (zz_E.kept hE hS.1 hS.2.1)
def zy_coder : MethodName := ⟨"java/lang/String", "coder", "()B"⟩
theorem zd_coder_0 : decode prog_16_method_152_code 0 = .ok (.getstatic 38, 3) := by decide +kernel
theorem zd_coder_3 : decode prog_16_method_152_code 3 = .ok (.ifCond .eq 10, 3) := by decide +kernel
theorem zd_coder_6 : decode prog_16_method_152_code 6 = .ok (.aload_n 0, 1) := by decide +kernel
theorem zd_coder_7 : decode prog_16_method_152_code 7 = .ok (.getfield 15, 3) := by decide +kernel
theorem zd_coder_10 : decode prog_16_method_152_code 10 = .ok (.goto 4, 3) := by decide +kernel
theorem zd_coder_14 : decode prog_16_method_152_code 14 = .ok (.ireturn, 1) := by decide +kernel
def zy_len : MethodName := ⟨"java/lang/String", "length", "()I"⟩
theorem zd_len_0 : decode prog_16_method_54_code 0 = .ok (.aload_n 0, 1) := by decide +kernel
theorem zd_len_1 : decode prog_16_method_54_code 1 = .ok (.getfield 9, 3) := by decide +kernel
theorem zd_len_4 : decode prog_16_method_54_code 4 = .ok (.arraylength, 1) := by decide +kernel
theorem zd_len_5 : decode prog_16_method_54_code 5 = .ok (.aload_n 0, 1) := by decide +kernel
theorem zd_len_6 : decode prog_16_method_54_code 6 = .ok (.invokevirtual 335, 3) := by decide +kernel
theorem zd_len_9 : decode prog_16_method_54_code 9 = .ok (.ishr, 1) := by decide +kernel
theorem zd_len_10 : decode prog_16_method_54_code 10 = .ok (.ireturn, 1) := by decide +kernel
def zy_lat : MethodName := ⟨"java/lang/String", "isLatin1", "()Z"⟩
theorem zd_lat_0 : decode prog_16_method_154_code 0 = .ok (.getstatic 38, 3) := by decide +kernel
theorem zd_lat_3 : decode prog_16_method_154_code 3 = .ok (.ifCond .eq 14, 3) := by decide +kernel
theorem zd_lat_6 : decode prog_16_method_154_code 6 = .ok (.aload_n 0, 1) := by decide +kernel
theorem zd_lat_7 : decode prog_16_method_154_code 7 = .ok (.getfield 15, 3) := by decide +kernel
theorem zd_lat_10 : decode prog_16_method_154_code 10 = .ok (.ifCond .ne 7, 3) := by decide +kernel
theorem zd_lat_13 : decode prog_16_method_154_code 13 = .ok (.iconst 1, 1) := by decide +kernel
theorem zd_lat_14 : decode prog_16_method_154_code 14 = .ok (.goto 4, 3) := by decide +kernel
theorem zd_lat_18 : decode prog_16_method_154_code 18 = .ok (.ireturn, 1) := by decide +kernel
def zy_chk : MethodName := ⟨"jdk/internal/util/Preconditions", "checkIndex", "(IILjava/util/function/BiFunction;)I"⟩
theorem zd_chk_0 : decode prog_19_method_11_code 0 = .ok (.iload_n 0, 1) := by decide +kernel
theorem zd_chk_1 : decode prog_19_method_11_code 1 = .ok (.ifCond .lt 8, 3) := by decide +kernel
theorem zd_chk_4 : decode prog_19_method_11_code 4 = .ok (.iload_n 0, 1) := by decide +kernel
theorem zd_chk_5 : decode prog_19_method_11_code 5 = .ok (.iload_n 1, 1) := by decide +kernel
theorem zd_chk_6 : decode prog_19_method_11_code 6 = .ok (.if_icmp .lt 10, 3) := by decide +kernel
theorem zd_chk_16 : decode prog_19_method_11_code 16 = .ok (.iload_n 0, 1) := by decide +kernel
theorem zd_chk_17 : decode prog_19_method_11_code 17 = .ok (.ireturn, 1) := by decide +kernel
def zy_sck : MethodName := ⟨"java/lang/String", "checkIndex", "(II)V"⟩
theorem zd_sck_0 : decode prog_16_method_155_code 0 = .ok (.iload_n 0, 1) := by decide +kernel
theorem zd_sck_1 : decode prog_16_method_155_code 1 = .ok (.iload_n 1, 1) := by decide +kernel
theorem zd_sck_2 : decode prog_16_method_155_code 2 = .ok (.getstatic 1053, 3) := by decide +kernel
theorem zd_sck_5 : decode prog_16_method_155_code 5 = .ok (.invokestatic 1059, 3) := by decide +kernel
theorem zd_sck_8 : decode prog_16_method_155_code 8 = .ok (.pop, 1) := by decide +kernel
theorem zd_sck_9 : decode prog_16_method_155_code 9 = .ok (.return_, 1) := by decide +kernel
def zy_lch : MethodName := ⟨"java/lang/StringLatin1", "charAt", "([BI)C"⟩
theorem zd_lch_0 : decode prog_17_method_2_code 0 = .ok (.iload_n 1, 1) := by decide +kernel
theorem zd_lch_1 : decode prog_17_method_2_code 1 = .ok (.aload_n 0, 1) := by decide +kernel
theorem zd_lch_2 : decode prog_17_method_2_code 2 = .ok (.arraylength, 1) := by decide +kernel
theorem zd_lch_3 : decode prog_17_method_2_code 3 = .ok (.invokestatic 9, 3) := by decide +kernel
theorem zd_lch_6 : decode prog_17_method_2_code 6 = .ok (.aload_n 0, 1) := by decide +kernel
theorem zd_lch_7 : decode prog_17_method_2_code 7 = .ok (.iload_n 1, 1) := by decide +kernel
theorem zd_lch_8 : decode prog_17_method_2_code 8 = .ok (.baload, 1) := by decide +kernel
theorem zd_lch_9 : decode prog_17_method_2_code 9 = .ok (.sipush 255, 3) := by decide +kernel
theorem zd_lch_12 : decode prog_17_method_2_code 12 = .ok (.iand, 1) := by decide +kernel
theorem zd_lch_13 : decode prog_17_method_2_code 13 = .ok (.i2c, 1) := by decide +kernel
theorem zd_lch_14 : decode prog_17_method_2_code 14 = .ok (.ireturn, 1) := by decide +kernel
def zy_chr : MethodName := ⟨"java/lang/String", "charAt", "(I)C"⟩
theorem zd_chr_0 : decode prog_16_method_56_code 0 = .ok (.aload_n 0, 1) := by decide +kernel
theorem zd_chr_1 : decode prog_16_method_56_code 1 = .ok (.invokevirtual 492, 3) := by decide +kernel
theorem zd_chr_4 : decode prog_16_method_56_code 4 = .ok (.ifCond .eq 12, 3) := by decide +kernel
theorem zd_chr_7 : decode prog_16_method_56_code 7 = .ok (.aload_n 0, 1) := by decide +kernel
theorem zd_chr_8 : decode prog_16_method_56_code 8 = .ok (.getfield 9, 3) := by decide +kernel
theorem zd_chr_11 : decode prog_16_method_56_code 11 = .ok (.iload_n 1, 1) := by decide +kernel
theorem zd_chr_12 : decode prog_16_method_56_code 12 = .ok (.invokestatic 495, 3) := by decide +kernel
theorem zd_chr_15 : decode prog_16_method_56_code 15 = .ok (.ireturn, 1) := by decide +kernel
set_option maxRecDepth 100000 in
theorem zv_c_coder : Cond.code zy_coder prog_16_method_152_code 1 (some .byte) ∈ zz_tb := zz_mem_r (ws := [Cond.code zy_coder prog_16_method_152_code 1 (some .byte)]) [643] rfl (by decide +kernel) _ List.mem_cons_self
set_option maxRecDepth 100000 in
theorem zv_c_len : Cond.code zy_len prog_16_method_54_code 1 (some .int) ∈ zz_tb := zz_mem_r (ws := [Cond.code zy_len prog_16_method_54_code 1 (some .int)]) [639] rfl (by decide +kernel) _ List.mem_cons_self
set_option maxRecDepth 100000 in
theorem zv_c_lat : Cond.code zy_lat prog_16_method_154_code 1 (some .boolean) ∈ zz_tb := zz_mem_r (ws := [Cond.code zy_lat prog_16_method_154_code 1 (some .boolean)]) [653] rfl (by decide +kernel) _ List.mem_cons_self
set_option maxRecDepth 100000 in
theorem zv_c_chk : Cond.code zy_chk prog_19_method_11_code 3 (some .int) ∈ zz_tb := zz_mem_r (ws := [Cond.code zy_chk prog_19_method_11_code 3 (some .int)]) [664] rfl (by decide +kernel) _ List.mem_cons_self
set_option maxRecDepth 100000 in
theorem zv_c_sck : Cond.code zy_sck prog_16_method_155_code 2 none ∈ zz_tb := zz_mem_r (ws := [Cond.code zy_sck prog_16_method_155_code 2 none]) [659] rfl (by decide +kernel) _ List.mem_cons_self
set_option maxRecDepth 100000 in
theorem zv_c_lch : Cond.code zy_lch prog_17_method_2_code 2 (some .char) ∈ zz_tb := zz_mem_r (ws := [Cond.code zy_lch prog_17_method_2_code 2 (some .char)]) [656] rfl (by decide +kernel) _ List.mem_cons_self
set_option maxRecDepth 100000 in
theorem zv_c_chr : Cond.code zy_chr prog_16_method_56_code 2 (some .char) ∈ zz_tb := zz_mem_r (ws := [Cond.code zy_chr prog_16_method_56_code 2 (some .char)]) [649] rfl (by decide +kernel) _ List.mem_cons_self
set_option maxRecDepth 100000 in
theorem zv_i_str : Cond.initialized "java/lang/String" ∈ zz_tb := zz_mem_r (ws := [Cond.initialized "java/lang/String"]) [110] rfl (by decide +kernel) _ List.mem_cons_self
set_option maxRecDepth 100000 in
theorem zv_i_lat : Cond.initialized "java/lang/StringLatin1" ∈ zz_tb := zz_mem_r (ws := [Cond.initialized "java/lang/StringLatin1"]) [111] rfl (by decide +kernel) _ List.mem_cons_self
set_option maxRecDepth 100000 in
theorem zv_i_pre : Cond.initialized "jdk/internal/util/Preconditions" ∈ zz_tb := zz_mem_r (ws := [Cond.initialized "jdk/internal/util/Preconditions"]) [112] rfl (by decide +kernel) _ List.mem_cons_self
set_option maxRecDepth 100000 in
theorem zv_i_mat : Cond.initialized "java/lang/Math" ∈ zz_tb := zz_mem_r (ws := [Cond.initialized "java/lang/Math"]) [98] rfl (by decide +kernel) _ List.mem_cons_self
set_option maxRecDepth 100000 in
theorem zv_m_len : Cond.instanceMethod zy_len ∈ zz_tb := zz_mem_r (ws := [Cond.instanceMethod zy_len]) [637] rfl (by decide +kernel) _ List.mem_cons_self
set_option maxRecDepth 100000 in
theorem zv_s_len : Cond.selects "java/lang/String" zy_len zy_len ∈ zz_tb := zz_mem_r (ws := [Cond.selects "java/lang/String" zy_len zy_len]) [638] rfl (by decide +kernel) _ List.mem_cons_self
set_option maxRecDepth 100000 in
theorem zv_l_coder : Cond.methodLink "java/lang/String" 335 zy_coder ∈ zz_tb := zz_mem_r (ws := [Cond.methodLink "java/lang/String" 335 zy_coder]) [640] rfl (by decide +kernel) _ List.mem_cons_self
set_option maxRecDepth 100000 in
theorem zv_m_coder : Cond.instanceMethod zy_coder ∈ zz_tb := zz_mem_r (ws := [Cond.instanceMethod zy_coder]) [641] rfl (by decide +kernel) _ List.mem_cons_self
set_option maxRecDepth 100000 in
theorem zv_s_coder : Cond.selects "java/lang/String" zy_coder zy_coder ∈ zz_tb := zz_mem_r (ws := [Cond.selects "java/lang/String" zy_coder zy_coder]) [642] rfl (by decide +kernel) _ List.mem_cons_self
set_option maxRecDepth 100000 in
theorem zv_f_comp : Cond.fieldLink "java/lang/String" 38 "java/lang/String" "COMPACT_STRINGS" "Z" ∈ zz_tb := zz_mem_r (ws := [Cond.fieldLink "java/lang/String" 38 "java/lang/String" "COMPACT_STRINGS" "Z"]) [644] rfl (by decide +kernel) _ List.mem_cons_self
set_option maxRecDepth 100000 in
theorem zv_m_chr : Cond.instanceMethod zy_chr ∈ zz_tb := zz_mem_r (ws := [Cond.instanceMethod zy_chr]) [647] rfl (by decide +kernel) _ List.mem_cons_self
set_option maxRecDepth 100000 in
theorem zv_s_chr : Cond.selects "java/lang/String" zy_chr zy_chr ∈ zz_tb := zz_mem_r (ws := [Cond.selects "java/lang/String" zy_chr zy_chr]) [648] rfl (by decide +kernel) _ List.mem_cons_self
set_option maxRecDepth 100000 in
theorem zv_l_lat : Cond.methodLink "java/lang/String" 492 zy_lat ∈ zz_tb := zz_mem_r (ws := [Cond.methodLink "java/lang/String" 492 zy_lat]) [650] rfl (by decide +kernel) _ List.mem_cons_self
set_option maxRecDepth 100000 in
theorem zv_m_lat : Cond.instanceMethod zy_lat ∈ zz_tb := zz_mem_r (ws := [Cond.instanceMethod zy_lat]) [651] rfl (by decide +kernel) _ List.mem_cons_self
set_option maxRecDepth 100000 in
theorem zv_s_lat : Cond.selects "java/lang/String" zy_lat zy_lat ∈ zz_tb := zz_mem_r (ws := [Cond.selects "java/lang/String" zy_lat zy_lat]) [652] rfl (by decide +kernel) _ List.mem_cons_self
set_option maxRecDepth 100000 in
theorem zv_l_lch : Cond.methodLink "java/lang/String" 495 zy_lch ∈ zz_tb := zz_mem_r (ws := [Cond.methodLink "java/lang/String" 495 zy_lch]) [654] rfl (by decide +kernel) _ List.mem_cons_self
set_option maxRecDepth 100000 in
theorem zv_t_lch : Cond.static zy_lch ∈ zz_tb := zz_mem_r (ws := [Cond.static zy_lch]) [655] rfl (by decide +kernel) _ List.mem_cons_self
set_option maxRecDepth 100000 in
theorem zv_l_sck : Cond.methodLink "java/lang/StringLatin1" 9 zy_sck ∈ zz_tb := zz_mem_r (ws := [Cond.methodLink "java/lang/StringLatin1" 9 zy_sck]) [657] rfl (by decide +kernel) _ List.mem_cons_self
set_option maxRecDepth 100000 in
theorem zv_t_sck : Cond.static zy_sck ∈ zz_tb := zz_mem_r (ws := [Cond.static zy_sck]) [658] rfl (by decide +kernel) _ List.mem_cons_self
set_option maxRecDepth 100000 in
theorem zv_f_pre : Cond.fieldLink "java/lang/String" 1053 "jdk/internal/util/Preconditions" "SIOOBE_FORMATTER" "Ljava/util/function/BiFunction;" ∈ zz_tb := zz_mem_r (ws := [Cond.fieldLink "java/lang/String" 1053 "jdk/internal/util/Preconditions" "SIOOBE_FORMATTER" "Ljava/util/function/BiFunction;"]) [660] rfl (by decide +kernel) _ List.mem_cons_self
set_option maxRecDepth 100000 in
theorem zv_l_chk : Cond.methodLink "java/lang/String" 1059 zy_chk ∈ zz_tb := zz_mem_r (ws := [Cond.methodLink "java/lang/String" 1059 zy_chk]) [662] rfl (by decide +kernel) _ List.mem_cons_self
set_option maxRecDepth 100000 in
theorem zv_t_chk : Cond.static zy_chk ∈ zz_tb := zz_mem_r (ws := [Cond.static zy_chk]) [663] rfl (by decide +kernel) _ List.mem_cons_self
set_option maxRecDepth 100000 in
theorem zv_f_val : Cond.fieldLink "java/lang/String" 9 "java/lang/String" "value" "[B" ∈ zz_tb := zz_mem_r (ws := [Cond.fieldLink "java/lang/String" 9 "java/lang/String" "value" "[B"]) [2040] rfl (by decide +kernel) _ List.mem_cons_self
set_option maxRecDepth 100000 in
theorem zv_f_cod : Cond.fieldLink "java/lang/String" 15 "java/lang/String" "coder" "B" ∈ zz_tb := zz_mem_r (ws := [Cond.fieldLink "java/lang/String" 15 "java/lang/String" "coder" "B"]) [2041] rfl (by decide +kernel) _ List.mem_cons_self
set_option maxRecDepth 100000 in
theorem zv_t_max : Cond.static Lib.Math.max.name ∈ zz_tb := zz_mem_r (ws := [Cond.static Lib.Math.max.name]) [129] rfl (by decide +kernel) _ List.mem_cons_self
set_option maxRecDepth 100000 in
theorem zv_c_max : Cond.code Lib.Math.max.name Lib.Math.max.code 2 (some .int) ∈ zz_tb := zz_mem_r (ws := [Cond.code Lib.Math.max.name Lib.Math.max.code 2 (some .int)]) [130] rfl (by decide +kernel) _ List.mem_cons_self
set_option maxRecDepth 100000 in
theorem zv_t_min : Cond.static Lib.Math.min.name ∈ zz_tb := zz_mem_r (ws := [Cond.static Lib.Math.min.name]) [621] rfl (by decide +kernel) _ List.mem_cons_self
set_option maxRecDepth 100000 in
theorem zv_c_min : Cond.code Lib.Math.min.name Lib.Math.min.code 2 (some .int) ∈ zz_tb := zz_mem_r (ws := [Cond.code Lib.Math.min.name Lib.Math.min.code 2 (some .int)]) [622] rfl (by decide +kernel) _ List.mem_cons_self
set_option maxRecDepth 100000 in
theorem zv_t_abs : Cond.static Lib.Math.abs.name ∈ zz_tb := zz_mem_r (ws := [Cond.static Lib.Math.abs.name]) [1967] rfl (by decide +kernel) _ List.mem_cons_self
set_option maxRecDepth 100000 in
theorem zv_c_abs : Cond.code Lib.Math.abs.name Lib.Math.abs.code 1 (some .int) ∈ zz_tb := zz_mem_r (ws := [Cond.code Lib.Math.abs.name Lib.Math.abs.code 1 (some .int)]) [1968] rfl (by decide +kernel) _ List.mem_cons_self
theorem zz_tx_b : (List.range zz_nS).all (fun i => decide ((zz_tx i).length < 100) && decide (Int32.ofNat (zz_tx i).length >>> ((0 : Int32) &&& 31) = Int32.ofNat (zz_tx i).length) && (List.range (zz_tx i).length).all (fun k => decide (((nI ((zz_tx i).getD k 0) &&& 255).toUInt32 % 65536).toInt32 = nI ((zz_tx i).getD k 0)) && decide (narrow .char (.int (nI ((zz_tx i).getD k 0))) = .int (nI ((zz_tx i).getD k 0))) && decide ((zz_tx i).getD k 0 < 128))) = true := by decide +kernel
theorem zz_shr0 {i : Nat} (hi : i < zz_nS) : Int32.ofNat (zz_tx i).length >>> ((0 : Int32) &&& 31) = Int32.ofNat (zz_tx i).length := by
  have h := List.all_eq_true.mp zz_tx_b i (List.mem_range.mpr hi)
  simp only [Bool.and_eq_true, decide_eq_true_eq] at h
  exact h.1.2
theorem zz_txOk {i : Nat} (hi : i < zz_nS) : (zz_tx i).length < 100 ∧ ∀ k, k < (zz_tx i).length → ((nI ((zz_tx i).getD k 0) &&& 255).toUInt32 % 65536).toInt32 = nI ((zz_tx i).getD k 0) ∧ narrow .char (.int (nI ((zz_tx i).getD k 0))) = .int (nI ((zz_tx i).getD k 0)) ∧ (zz_tx i).getD k 0 < 128 := by
  have h := List.all_eq_true.mp zz_tx_b i (List.mem_range.mpr hi)
  simp only [Bool.and_eq_true, decide_eq_true_eq] at h
  refine ⟨h.1.1, fun k hk => ?_⟩
  have h2 := List.all_eq_true.mp h.2 k (List.mem_range.mpr hk)
  simp only [Bool.and_eq_true, decide_eq_true_eq] at h2
  exact ⟨h2.1.1, h2.1.2, h2.2⟩
set_option maxHeartbeats 2000000 in
theorem zm_coder (X : zz_X) {i : Nat} (hi : i < zz_nS) : Met X.l zy_coder (Cond.code zy_coder prog_16_method_152_code 1 (some .byte) :: zz_tb) (zz_room 1) (zz_P0 X [.ref (X.sa i)]) (zz_Q0 (some (.int 0))) 0 0 zz_no := by
  refine Met.ofW (cc := prog_16_method_152_code) (maxL := 1) (ret := some .byte) (by decide) rfl ?_
  intro p e s m args below meth c s₁ B hml hv
  obtain ⟨rfl, hE⟩ := hv
  have hx := B.exec
  have hb := B.bytes
  have hr := B.returns
  have hts0 := atoms_spec (ws := Cond.code zy_coder prog_16_method_152_code 1 (some .byte) :: zz_tb) B.pre
  have hts : ∀ w ∈ zz_tb, w.before ([.ref (X.sa i)] : List Value).toArray s = true := fun w hw => hts0 w (List.mem_cons_of_mem _ hw)
  have hown : s.vm.findClass zy_coder.cls = some m.cls := findClass_of_methodNamed B.named
  have hlocks := B.notSynchronized
  have hS : va_S (zz_A X) s.heap s.heap [] := va_S.rf
  have hl := lv_entry ([.ref (X.sa i)]) (n := 1) (Nat.le_of_ble_eq_true rfl)
  rw [lg_entry_eq]
  generalize (lg_sl ([.ref (X.sa i)]) ++ List.replicate (1 - (lg_sl ([.ref (X.sa i)])).length) Slot.unset).toArray = ls at hl ⊢
  have hl : lv_has ls 1 [(0, .ref (X.sa i))] := hl
  obtain ⟨t1, t2, t3, t4⟩ := hE.2.1 i hi
  refine va_gets hx hb hE.2.2.2.1 hS hown (hts _ zv_f_comp) (fun _ h => h) zd_coder_0 ?_
  refine lv_if_eq (tgt := 13) hx hb zd_coder_3 (by decide) (fun z => absurd z (by decide)) (fun _ => ?_)
  refine lv_aload_n hx hb zd_coder_6 rfl (lv_at hl 0 rfl) ?_
  refine vk_getf hx hb t2 hS hown (hts _ zv_f_cod) (fun _ h => h) zd_coder_7 ?_
  refine lv_goto (tgt := 14) hx hb zd_coder_10 (by decide) ?_
  exact W.zret hx hb hr (by decide) (fun t ht _ => ⟨rfl, ht⟩) (fun q h => by cases h) zd_coder_14 hlocks
set_option maxHeartbeats 2000000 in
theorem zm_len (X : zz_X) {i : Nat} (hi : i < zz_nS) : Met X.l zy_len (Cond.code zy_len prog_16_method_54_code 1 (some .int) :: zz_tb) (zz_room 2) (zz_P0 X [.ref (X.sa i)]) (zz_Q0 (some (.int (Int32.ofNat (zz_tx i).length)))) 0 0 zz_no := by
  refine Met.ofW (cc := prog_16_method_54_code) (maxL := 1) (ret := some .int) (by decide) rfl ?_
  intro p e s m args below meth c s₁ B hml hv
  obtain ⟨rfl, hE⟩ := hv
  have hx := B.exec
  have hb := B.bytes
  have hr := B.returns
  have hts0 := atoms_spec (ws := Cond.code zy_len prog_16_method_54_code 1 (some .int) :: zz_tb) B.pre
  have hts : ∀ w ∈ zz_tb, w.before ([.ref (X.sa i)] : List Value).toArray s = true := fun w hw => hts0 w (List.mem_cons_of_mem _ hw)
  have hown : s.vm.findClass zy_len.cls = some m.cls := findClass_of_methodNamed B.named
  have hlocks := B.notSynchronized
  have hS : va_S (zz_A X) s.heap s.heap [] := va_S.rf
  have hl := lv_entry ([.ref (X.sa i)]) (n := 1) (Nat.le_of_ble_eq_true rfl)
  rw [lg_entry_eq]
  generalize (lg_sl ([.ref (X.sa i)]) ++ List.replicate (1 - (lg_sl ([.ref (X.sa i)])).length) Slot.unset).toArray = ls at hl ⊢
  have hl : lv_has ls 1 [(0, .ref (X.sa i))] := hl
  obtain ⟨t1, t2, t3, t4⟩ := hE.2.1 i hi
  refine lv_aload_n hx hb zd_len_0 rfl (lv_at hl 0 rfl) ?_
  refine vk_getf hx hb t3 hS hown (hts _ zv_f_val) (fun _ h => h) zd_len_1 ?_
  refine va_tlen hx hb t4 hS (v := Int32.ofNat (zz_tx i).length) rfl zd_len_4 ?_
  refine lv_aload_n hx hb zd_len_5 rfl (lv_at hl 0 rfl) ?_
  obtain ⟨cell, k1, k2, k3, -⟩ := t1
  refine zz_pcall (va_runV (nL := 1) (n := 0) (As := []) (rest := [.int (Int32.ofNat (zz_tx i).length)]) (C := "java/lang/String") (b := X.sa i) (own := "java/lang/String") ⟨hx, hb, hml, hown, hts⟩ (zm_coder X hi) ⟨⟨rfl, rfl, Nat.le_of_ble_eq_true rfl, Nat.le_of_ble_eq_true rfl, pay_in hts (zz_good zv_c_coder), List.mem_cons_self, hts _ zv_c_coder, hts _ zv_i_str, (by decide), (fun sig h => by cases h; rfl), hts _ zv_l_coder⟩, hts _ zv_m_coder, hts _ zv_s_coder⟩ ⟨zz_P0_blind, ⟨cell, k1, k2, k3⟩, fun U hU hW => zz_P0_pre (as := [.ref (X.sa i)]) hE hS hU hW⟩ rfl rfl hl.1 rfl (lv_room (Nat.le_of_ble_eq_true rfl)) zd_len_6 ⟨Nat.zero_le _, Nat.zero_le _⟩) ?_
  refine lv_ishr hx hb zd_len_9 ?_
  have e0 : Int32.ofNat (zz_tx i).length >>> ((0 : Int32) &&& 31) = Int32.ofNat (zz_tx i).length := zz_shr0 hi
  rw [e0]
  exact W.iret hx hb hr (fun t ht _ => ⟨rfl, ht⟩) (fun q h => by cases h) zd_len_10 hlocks
set_option maxHeartbeats 2000000 in
theorem zm_lat (X : zz_X) {i : Nat} (hi : i < zz_nS) : Met X.l zy_lat (Cond.code zy_lat prog_16_method_154_code 1 (some .boolean) :: zz_tb) (zz_room 1) (zz_P0 X [.ref (X.sa i)]) (zz_Q0 (some (.int 1))) 0 0 zz_no := by
  refine Met.ofW (cc := prog_16_method_154_code) (maxL := 1) (ret := some .boolean) (by decide) rfl ?_
  intro p e s m args below meth c s₁ B hml hv
  obtain ⟨rfl, hE⟩ := hv
  have hx := B.exec
  have hb := B.bytes
  have hr := B.returns
  have hts0 := atoms_spec (ws := Cond.code zy_lat prog_16_method_154_code 1 (some .boolean) :: zz_tb) B.pre
  have hts : ∀ w ∈ zz_tb, w.before ([.ref (X.sa i)] : List Value).toArray s = true := fun w hw => hts0 w (List.mem_cons_of_mem _ hw)
  have hown : s.vm.findClass zy_lat.cls = some m.cls := findClass_of_methodNamed B.named
  have hlocks := B.notSynchronized
  have hS : va_S (zz_A X) s.heap s.heap [] := va_S.rf
  have hl := lv_entry ([.ref (X.sa i)]) (n := 1) (Nat.le_of_ble_eq_true rfl)
  rw [lg_entry_eq]
  generalize (lg_sl ([.ref (X.sa i)]) ++ List.replicate (1 - (lg_sl ([.ref (X.sa i)])).length) Slot.unset).toArray = ls at hl ⊢
  have hl : lv_has ls 1 [(0, .ref (X.sa i))] := hl
  obtain ⟨t1, t2, t3, t4⟩ := hE.2.1 i hi
  refine va_gets hx hb hE.2.2.2.1 hS hown (hts _ zv_f_comp) (fun _ h => h) zd_lat_0 ?_
  refine lv_if_eq (tgt := 17) hx hb zd_lat_3 (by decide) (fun z => absurd z (by decide)) (fun _ => ?_)
  refine lv_aload_n hx hb zd_lat_6 rfl (lv_at hl 0 rfl) ?_
  refine vk_getf hx hb t2 hS hown (hts _ zv_f_cod) (fun _ h => h) zd_lat_7 ?_
  refine lv_if_ne (tgt := 17) hx hb zd_lat_10 (by decide) (fun z => absurd rfl z) (fun _ => ?_)
  refine lv_iconst hx hb zd_lat_13 (v := 1) (by decide) ?_
  refine lv_goto (tgt := 18) hx hb zd_lat_14 (by decide) ?_
  exact W.zret hx hb hr (by decide) (fun t ht _ => ⟨rfl, ht⟩) (fun q h => by cases h) zd_lat_18 hlocks
set_option maxHeartbeats 2000000 in
theorem zm_chkN (X : zz_X) {k n : Int32} (h1 : ¬ k < 0) (h2 : k < n) : Met X.l zy_chk (Cond.code zy_chk prog_19_method_11_code 3 (some .int) :: zz_tb) (zz_room 1) (zz_P0 X [.int k, .int n, .null]) (zz_Q0 (some (.int k))) 0 0 zz_no := by
  refine Met.ofW (cc := prog_19_method_11_code) (maxL := 3) (ret := some .int) (by decide) rfl ?_
  intro p e s m args below meth c s₁ B hml hv
  obtain ⟨rfl, hE⟩ := hv
  have hx := B.exec
  have hb := B.bytes
  have hr := B.returns
  have hts0 := atoms_spec (ws := Cond.code zy_chk prog_19_method_11_code 3 (some .int) :: zz_tb) B.pre
  have hts : ∀ w ∈ zz_tb, w.before ([.int k, .int n, .null] : List Value).toArray s = true := fun w hw => hts0 w (List.mem_cons_of_mem _ hw)
  have hown : s.vm.findClass zy_chk.cls = some m.cls := findClass_of_methodNamed B.named
  have hlocks := B.notSynchronized
  have hS : va_S (zz_A X) s.heap s.heap [] := va_S.rf
  have hl := lv_entry ([.int k, .int n, .null]) (n := 3) (Nat.le_of_ble_eq_true rfl)
  rw [lg_entry_eq]
  generalize (lg_sl ([.int k, .int n, .null]) ++ List.replicate (3 - (lg_sl ([.int k, .int n, .null])).length) Slot.unset).toArray = ls at hl ⊢
  have hl : lv_has ls 3 [(0, .int k), (1, .int n), (2, .null)] := hl
  refine lv_iload_n hx hb zd_chk_0 rfl (lv_at hl 0 rfl) ?_
  refine lv_if_lt (tgt := 9) hx hb zd_chk_1 (by decide) (fun z => absurd z h1) (fun _ => ?_)
  refine lv_iload_n hx hb zd_chk_4 rfl (lv_at hl 0 rfl) ?_
  refine lv_iload_n hx hb zd_chk_5 rfl (lv_at hl 1 rfl) ?_
  refine lv_icmp_lt (tgt := 16) hx hb zd_chk_6 (by decide) (fun _ => ?_) (fun z => absurd h2 z)
  refine lv_iload_n hx hb zd_chk_16 rfl (lv_at hl 0 rfl) ?_
  exact W.iret hx hb hr (fun t ht _ => ⟨rfl, ht⟩) (fun q h => by cases h) zd_chk_17 hlocks
set_option maxHeartbeats 2000000 in
theorem zm_chkR (X : zz_X) {k n : Int32} {t : Nat} (h1 : ¬ k < 0) (h2 : k < n) : Met X.l zy_chk (Cond.code zy_chk prog_19_method_11_code 3 (some .int) :: zz_tb) (zz_room 1) (zz_P0 X [.int k, .int n, .ref t]) (zz_Q0 (some (.int k))) 0 0 zz_no := by
  refine Met.ofW (cc := prog_19_method_11_code) (maxL := 3) (ret := some .int) (by decide) rfl ?_
  intro p e s m args below meth c s₁ B hml hv
  obtain ⟨rfl, hE⟩ := hv
  have hx := B.exec
  have hb := B.bytes
  have hr := B.returns
  have hts0 := atoms_spec (ws := Cond.code zy_chk prog_19_method_11_code 3 (some .int) :: zz_tb) B.pre
  have hts : ∀ w ∈ zz_tb, w.before ([.int k, .int n, .ref t] : List Value).toArray s = true := fun w hw => hts0 w (List.mem_cons_of_mem _ hw)
  have hown : s.vm.findClass zy_chk.cls = some m.cls := findClass_of_methodNamed B.named
  have hlocks := B.notSynchronized
  have hS : va_S (zz_A X) s.heap s.heap [] := va_S.rf
  have hl := lv_entry ([.int k, .int n, .ref t]) (n := 3) (Nat.le_of_ble_eq_true rfl)
  rw [lg_entry_eq]
  generalize (lg_sl ([.int k, .int n, .ref t]) ++ List.replicate (3 - (lg_sl ([.int k, .int n, .ref t])).length) Slot.unset).toArray = ls at hl ⊢
  have hl : lv_has ls 3 [(0, .int k), (1, .int n), (2, .ref t)] := hl
  refine lv_iload_n hx hb zd_chk_0 rfl (lv_at hl 0 rfl) ?_
  refine lv_if_lt (tgt := 9) hx hb zd_chk_1 (by decide) (fun z => absurd z h1) (fun _ => ?_)
  refine lv_iload_n hx hb zd_chk_4 rfl (lv_at hl 0 rfl) ?_
  refine lv_iload_n hx hb zd_chk_5 rfl (lv_at hl 1 rfl) ?_
  refine lv_icmp_lt (tgt := 16) hx hb zd_chk_6 (by decide) (fun _ => ?_) (fun z => absurd h2 z)
  refine lv_iload_n hx hb zd_chk_16 rfl (lv_at hl 0 rfl) ?_
  exact W.iret hx hb hr (fun t ht _ => ⟨rfl, ht⟩) (fun q h => by cases h) zd_chk_17 hlocks
set_option maxHeartbeats 2000000 in
theorem zm_sck (X : zz_X) {k n : Int32} (h1 : ¬ k < 0) (h2 : k < n) : Met X.l zy_sck (Cond.code zy_sck prog_16_method_155_code 2 (none) :: zz_tb) (zz_room 2) (zz_P0 X [.int k, .int n]) (zz_Q0 (none)) 0 0 zz_no := by
  refine Met.ofW (cc := prog_16_method_155_code) (maxL := 2) (ret := none) (by decide) rfl ?_
  intro p e s m args below meth c s₁ B hml hv
  obtain ⟨rfl, hE⟩ := hv
  have hx := B.exec
  have hb := B.bytes
  have hr := B.returns
  have hts0 := atoms_spec (ws := Cond.code zy_sck prog_16_method_155_code 2 (none) :: zz_tb) B.pre
  have hts : ∀ w ∈ zz_tb, w.before ([.int k, .int n] : List Value).toArray s = true := fun w hw => hts0 w (List.mem_cons_of_mem _ hw)
  have hown : s.vm.findClass zy_sck.cls = some m.cls := findClass_of_methodNamed B.named
  have hlocks := B.notSynchronized
  have hS : va_S (zz_A X) s.heap s.heap [] := va_S.rf
  have hl := lv_entry ([.int k, .int n]) (n := 2) (Nat.le_of_ble_eq_true rfl)
  rw [lg_entry_eq]
  generalize (lg_sl ([.int k, .int n]) ++ List.replicate (2 - (lg_sl ([.int k, .int n])).length) Slot.unset).toArray = ls at hl ⊢
  have hl : lv_has ls 2 [(0, .int k), (1, .int n)] := hl
  have key : ∀ fv : Value, fv.category = 1 → Met X.l zy_chk (Cond.code zy_chk prog_19_method_11_code 3 (some .int) :: zz_tb) (zz_room 1) (zz_P0 X [.int k, .int n, fv]) (zz_Q0 (some (.int k))) 0 0 zz_no → W p X.l e (headSpec (Cond.code zy_sck prog_16_method_155_code 2 none :: zz_tb) (zz_room 2)).room s m ([.int k, .int n] : List Value).toArray below meth c s.heap [] 0 0 (MQ below (zz_Q0 none) ([.int k, .int n] : List Value).toArray s 0 0 zz_no) (F0 m 5 ls [fv, .int n, .int k]) := by
    intro fv hfv hM
    refine zz_pcall (va_runS (nL := 2) (n := 3) (As := [.int k, .int n, fv]) (rest := []) (own := "java/lang/String") ⟨hx, hb, hml, hown, hts⟩ hM ⟨⟨rfl, rfl, Nat.le_of_ble_eq_true rfl, Nat.le_of_ble_eq_true rfl, pay_in hts (zz_good zv_c_chk), List.mem_cons_self, hts _ zv_c_chk, hts _ zv_i_pre, (by decide), (fun sig h => by cases h; rfl), hts _ zv_l_chk⟩, hts _ zv_t_chk⟩ ⟨zz_P0_blind, fun U hU hW => zz_P0_pre (as := [.int k, .int n, fv]) hE hS hU hW⟩ rfl rfl hl.1 rfl (lv_room (Nat.le_of_ble_eq_true rfl)) zd_sck_5 ⟨Nat.zero_le _, Nat.zero_le _⟩) ?_
    refine lv_pop hx hb zd_sck_8 rfl ?_
    exact W.vret hx hb hr (fun t ht _ => ⟨rfl, ht⟩) (fun q h => by cases h) zd_sck_9 hlocks
  refine lv_iload_n hx hb zd_sck_0 rfl (lv_at hl 0 rfl) ?_
  refine lv_iload_n hx hb zd_sck_1 rfl (lv_at hl 1 rfl) ?_
  rcases hE.2.2.2.2.1 with hz | ⟨t, hz⟩
  · exact va_gets hx hb hz hS hown (hts _ zv_f_pre) (fun _ h => h) zd_sck_2 (key .null rfl (zm_chkN X h1 h2))
  · exact va_gets hx hb hz hS hown (hts _ zv_f_pre) (fun _ h => h) zd_sck_2 (key (.ref t) rfl (zm_chkR X h1 h2))
set_option maxHeartbeats 2000000 in
theorem zm_lch (X : zz_X) {i k : Nat} (hi : i < zz_nS) (hk : k < (zz_tx i).length) : Met X.l zy_lch (Cond.code zy_lch prog_17_method_2_code 2 (some .char) :: zz_tb) (zz_room 3) (zz_P0 X [.ref (X.sv i), .int (nI k)]) (zz_Q0 (some (.int (nI ((zz_tx i).getD k 0))))) 0 0 zz_no := by
  refine Met.ofW (cc := prog_17_method_2_code) (maxL := 2) (ret := some .char) (by decide) rfl ?_
  intro p e s m args below meth c s₁ B hml hv
  obtain ⟨rfl, hE⟩ := hv
  have hx := B.exec
  have hb := B.bytes
  have hr := B.returns
  have hts0 := atoms_spec (ws := Cond.code zy_lch prog_17_method_2_code 2 (some .char) :: zz_tb) B.pre
  have hts : ∀ w ∈ zz_tb, w.before ([.ref (X.sv i), .int (nI k)] : List Value).toArray s = true := fun w hw => hts0 w (List.mem_cons_of_mem _ hw)
  have hown : s.vm.findClass zy_lch.cls = some m.cls := findClass_of_methodNamed B.named
  have hlocks := B.notSynchronized
  have hS : va_S (zz_A X) s.heap s.heap [] := va_S.rf
  have hl := lv_entry ([.ref (X.sv i), .int (nI k)]) (n := 2) (Nat.le_of_ble_eq_true rfl)
  rw [lg_entry_eq]
  generalize (lg_sl ([.ref (X.sv i), .int (nI k)]) ++ List.replicate (2 - (lg_sl ([.ref (X.sv i), .int (nI k)])).length) Slot.unset).toArray = ls at hl ⊢
  have hl : lv_has ls 2 [(0, .ref (X.sv i)), (1, .int (nI k))] := hl
  obtain ⟨t1, t2, t3, t4⟩ := hE.2.1 i hi
  obtain ⟨b1, b2⟩ := zz_txOk hi
  have h1 : ¬ nI k < 0 := nI_pos (by omega)
  have h2 : nI k < Int32.ofNat (zz_tx i).length := nI_lt hk (by omega)
  have hc : (nI k).toNatClampNeg = k := nI_clamp (by omega)
  refine lv_iload_n hx hb zd_lch_0 rfl (lv_at hl 1 rfl) ?_
  refine lv_aload_n hx hb zd_lch_1 rfl (lv_at hl 0 rfl) ?_
  refine va_tlen hx hb t4 hS (v := Int32.ofNat (zz_tx i).length) rfl zd_lch_2 ?_
  refine zz_pcall (va_runS (nL := 2) (n := 2) (As := [.int (nI k), .int (Int32.ofNat (zz_tx i).length)]) (rest := []) (own := "java/lang/StringLatin1") ⟨hx, hb, hml, hown, hts⟩ (zm_sck X h1 h2) ⟨⟨rfl, rfl, Nat.le_of_ble_eq_true rfl, Nat.le_of_ble_eq_true rfl, pay_in hts (zz_good zv_c_sck), List.mem_cons_self, hts _ zv_c_sck, hts _ zv_i_str, (by decide), (fun sig h => by cases h; rfl), hts _ zv_l_sck⟩, hts _ zv_t_sck⟩ ⟨zz_P0_blind, fun U hU hW => zz_P0_pre (as := [.int (nI k), .int (Int32.ofNat (zz_tx i).length)]) hE hS hU hW⟩ rfl rfl hl.1 rfl (lv_room (Nat.le_of_ble_eq_true rfl)) zd_lch_3 ⟨Nat.zero_le _, Nat.zero_le _⟩) ?_
  refine lv_aload_n hx hb zd_lch_6 rfl (lv_at hl 0 rfl) ?_
  refine lv_iload_n hx hb zd_lch_7 rfl (lv_at hl 1 rfl) ?_
  refine va_tb hx hb t4 hS (i := nI k) (vp_in_nI hk (by omega)) (v := .int (nI ((zz_tx i).getD k 0))) (by rw [hc]) zd_lch_8 ?_
  refine lv_sipush hx hb zd_lch_9 (v := 255) (by decide) ?_
  refine lv_iand hx hb zd_lch_12 ?_
  obtain ⟨q1, q2, q3⟩ := b2 k hk
  refine lv_i2c hx hb zd_lch_13 (v := nI ((zz_tx i).getD k 0)) q1 ?_
  exact W.zret hx hb hr q2 (fun t ht _ => ⟨rfl, ht⟩) (fun q h => by cases h) zd_lch_14 hlocks
set_option maxHeartbeats 2000000 in
theorem zm_chr (X : zz_X) {i k : Nat} (hi : i < zz_nS) (hk : k < (zz_tx i).length) : Met X.l zy_chr (Cond.code zy_chr prog_16_method_56_code 2 (some .char) :: zz_tb) (zz_room 4) (zz_P0 X [.ref (X.sa i), .int (nI k)]) (zz_Q0 (some (.int (nI ((zz_tx i).getD k 0))))) 0 0 zz_no := by
  refine Met.ofW (cc := prog_16_method_56_code) (maxL := 2) (ret := some .char) (by decide) rfl ?_
  intro p e s m args below meth c s₁ B hml hv
  obtain ⟨rfl, hE⟩ := hv
  have hx := B.exec
  have hb := B.bytes
  have hr := B.returns
  have hts0 := atoms_spec (ws := Cond.code zy_chr prog_16_method_56_code 2 (some .char) :: zz_tb) B.pre
  have hts : ∀ w ∈ zz_tb, w.before ([.ref (X.sa i), .int (nI k)] : List Value).toArray s = true := fun w hw => hts0 w (List.mem_cons_of_mem _ hw)
  have hown : s.vm.findClass zy_chr.cls = some m.cls := findClass_of_methodNamed B.named
  have hlocks := B.notSynchronized
  have hS : va_S (zz_A X) s.heap s.heap [] := va_S.rf
  have hl := lv_entry ([.ref (X.sa i), .int (nI k)]) (n := 2) (Nat.le_of_ble_eq_true rfl)
  rw [lg_entry_eq]
  generalize (lg_sl ([.ref (X.sa i), .int (nI k)]) ++ List.replicate (2 - (lg_sl ([.ref (X.sa i), .int (nI k)])).length) Slot.unset).toArray = ls at hl ⊢
  have hl : lv_has ls 2 [(0, .ref (X.sa i)), (1, .int (nI k))] := hl
  obtain ⟨t1, t2, t3, t4⟩ := hE.2.1 i hi
  obtain ⟨b1, b2⟩ := zz_txOk hi
  obtain ⟨q1, q2, q3⟩ := b2 k hk
  obtain ⟨cell, k1, k2, k3, -⟩ := t1
  refine lv_aload_n hx hb zd_chr_0 rfl (lv_at hl 0 rfl) ?_
  refine zz_pcall (va_runV (nL := 2) (n := 0) (As := []) (rest := []) (C := "java/lang/String") (b := X.sa i) (own := "java/lang/String") ⟨hx, hb, hml, hown, hts⟩ (zm_lat X hi) ⟨⟨rfl, rfl, Nat.le_of_ble_eq_true rfl, Nat.le_of_ble_eq_true rfl, pay_in hts (zz_good zv_c_lat), List.mem_cons_self, hts _ zv_c_lat, hts _ zv_i_str, (by decide), (fun sig h => by cases h; rfl), hts _ zv_l_lat⟩, hts _ zv_m_lat, hts _ zv_s_lat⟩ ⟨zz_P0_blind, ⟨cell, k1, k2, k3⟩, fun U hU hW => zz_P0_pre (as := [.ref (X.sa i)]) hE hS hU hW⟩ rfl rfl hl.1 rfl (lv_room (Nat.le_of_ble_eq_true rfl)) zd_chr_1 ⟨Nat.zero_le _, Nat.zero_le _⟩) ?_
  refine lv_if_eq (tgt := 16) hx hb zd_chr_4 (by decide) (fun z => absurd z (by decide)) (fun _ => ?_)
  refine lv_aload_n hx hb zd_chr_7 rfl (lv_at hl 0 rfl) ?_
  refine vk_getf hx hb t3 hS hown (hts _ zv_f_val) (fun _ h => h) zd_chr_8 ?_
  refine lv_iload_n hx hb zd_chr_11 rfl (lv_at hl 1 rfl) ?_
  refine zz_pcall (va_runS (nL := 2) (n := 2) (As := [.ref (X.sv i), .int (nI k)]) (rest := []) (own := "java/lang/String") ⟨hx, hb, hml, hown, hts⟩ (zm_lch X hi hk) ⟨⟨rfl, rfl, Nat.le_of_ble_eq_true rfl, Nat.le_of_ble_eq_true rfl, pay_in hts (zz_good zv_c_lch), List.mem_cons_self, hts _ zv_c_lch, hts _ zv_i_lat, (by decide), (fun sig h => by cases h; rfl), hts _ zv_l_lch⟩, hts _ zv_t_lch⟩ ⟨zz_P0_blind, fun U hU hW => zz_P0_pre (as := [.ref (X.sv i), .int (nI k)]) hE hS hU hW⟩ rfl rfl hl.1 rfl (lv_room (Nat.le_of_ble_eq_true rfl)) zd_chr_12 ⟨Nat.zero_le _, Nat.zero_le _⟩) ?_
  exact W.zret hx hb hr q2 (fun t ht _ => ⟨rfl, ht⟩) (fun q h => by cases h) zd_chr_15 hlocks
section ZX
variable {X : zz_X} {d : Nat} {P : zz_P} {j : Nat} {ls st : List zz_V} {σ : zz_M} {Post : Option zz_V → zz_M → Prop}
def zz_x1 (code : List zz_C) (j : Nat) (st : List zz_V) : Option (Int × List zz_V) := match code[j]? with
  | some e => match e.2.1, e.2.2.2, st with
    | .invokevirtual _, [297], .inr (.inr (.inr (k + 2))) :: r => some (((zz_tx k).length : Nat), r)
    | _, _, _ => none
  | none => none
theorem zz_cst {z : Int} {r : List zz_V} (h : zz_x1 P.code j st = some (z, r)) (hd : 2 < d) (hcat : zz_cat r ≤ 8) (k : zz_G X d P (j + 1) ls (zI z :: r) σ Post) : zz_G X d P j ls st σ Post := by
  intro p e s m args below meth c H locs lm hok hx hb hml hr hlk hown hts hE hS hR hl hlen hls hst
  unfold zz_x1 at h
  cases he : P.code[j]? with
  | none => rw [he] at h; cases h
  | some en =>
    rw [he] at h
    dsimp only at h
    obtain ⟨pc, ins, len, ts⟩ := en
    obtain ⟨r1, r2, r3, r4, r5⟩ := zz_row hok he
    rw [r5]
    dsimp only at h r1 r2 r3 r4 ⊢
    split at h
    · rename_i idx i r'
      cases h
      dsimp only [zz_ck] at r3
      have el := of_decide_eq_true r3
      subst el
      have hlink := hts _ (r4 (.methodLink P.y.cls idx (zz_mn 297)) List.mem_cons_self)
      obtain ⟨o1, o2⟩ := List.forall_mem_cons.mp hst
      have hi : i < zz_nS := by
        rcases o1 with o1 | o1
        · omega
        · omega
      obtain ⟨cell, k1, k2, k3, -⟩ := (hE.2.1 i hi).1.kept hS.2.1
      have r2' : zz_pc P (j + 1) = pc + 3 := r2 rfl
      have hrm : (2 : Nat) + 1 ≤ d ∧ 8 + (1 + 11) + 40 * 2 ≤ 40 * d := by omega
      refine zz_pcall (va_runV (nL := P.maxL) (n := 0) (As := []) (rest := r.map (zz_toV X)) (C := "java/lang/String") (b := X.sa i) ⟨hx, hb, hml, hown, hts⟩ (zm_len X hi) ⟨⟨rfl, rfl, hrm.1, hrm.2, pay_in hts (zz_good zv_c_len), List.mem_cons_self, hts _ zv_c_len, hts _ zv_i_str, (by decide), (fun sig h => by cases h; rfl), hlink⟩, hts _ zv_m_len, hts _ zv_s_len⟩ ⟨zz_P0_blind, ⟨cell, k1, k2, k3⟩, fun U hU hW => zz_P0_pre (as := [.ref (X.sa i)]) hE hS hU hW⟩ rfl rfl hl.1 rfl (lv_room (by rw [zz_cat_of]; exact hcat)) r1 ⟨Nat.zero_le _, Nat.zero_le _⟩) ?_
      have hb1 := (zz_txOk hi).1
      have k2 := k p e s m args below meth c H locs lm hok hx hb hml hr hlk hown hts hE hS hR hl hlen hls (zz_all1 (P := zz_ok X) (show zz_in (((zz_tx i).length : Nat) : Int) by unfold zz_in; omega) o2)
      rw [r2'] at k2
      have ev : Int32.ofInt (((zz_tx i).length : Nat) : Int) = Int32.ofNat (zz_tx i).length := (zz_ofN (by omega)).symm
      simp only [List.map_cons, zz_toV, ev] at k2
      exact k2
    · cases h
def zz_x2 (code : List zz_C) (j : Nat) (st : List zz_V) : Option (Int × List Nat × List zz_V) := match code[j]? with
  | some e => match e.2.1, e.2.2.2, st with
    | .invokevirtual _, [298], .inl x :: .inr (.inr (.inr (k + 2))) :: r => some (x, zz_tx k, r)
    | _, _, _ => none
  | none => none
theorem zz_csc {x : Int} {tx : List Nat} {r : List zz_V} (h : zz_x2 P.code j st = some (x, tx, r)) (hd : 4 < d) (hcat : zz_cat r ≤ 8) (hx0 : 0 ≤ x ∧ x < tx.length) (k : zz_G X d P (j + 1) ls (zI ((tx.getD x.toNat 0 : Nat) : Int) :: r) σ Post) : zz_G X d P j ls st σ Post := by
  intro p e s m args below meth c H locs lm hok hx hb hml hr hlk hown hts hE hS hR hl hlen hls hst
  unfold zz_x2 at h
  cases he : P.code[j]? with
  | none => rw [he] at h; cases h
  | some en =>
    rw [he] at h
    dsimp only at h
    obtain ⟨pc, ins, len, ts⟩ := en
    obtain ⟨r1, r2, r3, r4, r5⟩ := zz_row hok he
    rw [r5]
    dsimp only at h r1 r2 r3 r4 ⊢
    split at h
    · rename_i idx x' i r'
      cases h
      dsimp only [zz_ck] at r3
      have el := of_decide_eq_true r3
      subst el
      have hlink := hts _ (r4 (.methodLink P.y.cls idx (zz_mn 298)) List.mem_cons_self)
      obtain ⟨o0, o1, o2⟩ := zz_fm2 hst
      have hi : i < zz_nS := by
        rcases o1 with o1 | o1
        · omega
        · omega
      obtain ⟨cell, k1, k2, k3, -⟩ := (hE.2.1 i hi).1.kept hS.2.1
      have hb1 := (zz_txOk hi).1
      have r2' : zz_pc P (j + 1) = pc + 3 := r2 rfl
      have hrm : (4 : Nat) + 1 ≤ d ∧ 8 + (2 + 11) + 40 * 4 ≤ 40 * d := by omega
      have hxn : Int32.ofInt x = nI x.toNat := by
        rw [show nI x.toNat = Int32.ofNat x.toNat from rfl, zz_ofN (by omega)]
        congr 1
        omega
      have hk : x.toNat < (zz_tx i).length := by omega
      have hstk : (zI x :: .inr (.inr (.inr (i + 2))) :: r).map (zz_toV X) = .int (nI x.toNat) :: .ref (X.sa i) :: r.map (zz_toV X) := by
        simp only [List.map_cons, zz_toV, hxn]
      rw [hstk]
      refine zz_pcall (va_runV (nL := P.maxL) (n := 1) (As := [.int (nI x.toNat)]) (rest := r.map (zz_toV X)) (C := "java/lang/String") (b := X.sa i) ⟨hx, hb, hml, hown, hts⟩ (zm_chr X hi hk) ⟨⟨rfl, rfl, hrm.1, hrm.2, pay_in hts (zz_good zv_c_chr), List.mem_cons_self, hts _ zv_c_chr, hts _ zv_i_str, (by decide), (fun sig h => by cases h; rfl), hlink⟩, hts _ zv_m_chr, hts _ zv_s_chr⟩ ⟨zz_P0_blind, ⟨cell, k1, k2, k3⟩, fun U hU hW => zz_P0_pre (as := [.ref (X.sa i), .int (nI x.toNat)]) hE hS hU hW⟩ rfl rfl hl.1 rfl (lv_room (by rw [zz_cat_of]; exact hcat)) r1 ⟨Nat.zero_le _, Nat.zero_le _⟩) ?_
      have hb2 := ((zz_txOk hi).2 x.toNat hk).2.2
      have k2 := k p e s m args below meth c H locs lm hok hx hb hml hr hlk hown hts hE hS hR hl hlen hls (zz_all1 (P := zz_ok X) (show zz_in (((zz_tx i).getD x.toNat 0 : Nat) : Int) by unfold zz_in; omega) o2)
      rw [r2'] at k2
      have ev : Int32.ofInt (((zz_tx i).getD x.toNat 0 : Nat) : Int) = nI ((zz_tx i).getD x.toNat 0) := (zz_ofN (by omega)).symm
      simp only [List.map_cons, zz_toV, ev] at k2
      exact k2
    · cases h
def zz_m1 (code : List zz_C) (j : Nat) (st : List zz_V) : Option (Int × List zz_V) := match code[j]? with
  | some e => match e.2.1, e.2.2.2, st with
    | .invokestatic _, [299], .inl y :: .inl x :: r => some (max x y, r)
    | .invokestatic _, [300], .inl y :: .inl x :: r => some (min x y, r)
    | .invokestatic _, [301], .inl x :: r => some (zz_b (fun a _ => if a < 0 then -a else a) x 0, r)
    | _, _, _ => none
  | none => none
theorem zz_mth {z : Int} {r : List zz_V} (h : zz_m1 P.code j st = some (z, r)) (hd : 0 < d) (hcat : zz_cat r ≤ 8) (k : zz_G X d P (j + 1) ls (zI z :: r) σ Post) : zz_G X d P j ls st σ Post := by
  intro p e s m args below meth c H locs lm hok hx hb hml hr hlk hown hts hE hS hR hl hlen hls hst
  unfold zz_m1 at h
  cases he : P.code[j]? with
  | none => rw [he] at h; cases h
  | some en =>
    rw [he] at h
    dsimp only at h
    obtain ⟨pc, ins, len, ts⟩ := en
    obtain ⟨r1, r2, r3, r4, r5⟩ := zz_row hok he
    rw [r5]
    dsimp only at h r1 r2 r3 r4 ⊢
    have hrm : 1 ≤ d ∧ ((r.map (zz_toV X)).map fun v => v.category).sum + 13 ≤ 40 * d := by
      rw [zz_cat_of]
      omega
    split at h
    · rename_i idx y x r'
      cases h
      simp only [zz_ck, Bool.and_eq_true, decide_eq_true_eq] at r3
      obtain ⟨el, r3⟩ := r3
      subst el
      have hlink := hts _ (r4 (.methodLink P.y.cls idx (zz_mn 299)) List.mem_cons_self)
      obtain ⟨o1, o2, o3⟩ := zz_fm2 hst
      have r2' : zz_pc P (j + 1) = pc + 3 := r2 rfl
      have hin : zz_in (max x y) := by
        rcases Int.le_total x y with q | q
        · rw [Int.max_eq_right q]; exact o1
        · rw [Int.max_eq_left q]; exact o2
      refine va_mmax hx hb (hml.trans hl.1.symm) hown hlink (hts _ zv_t_max) (hts _ zv_i_mat) (hts _ zv_c_max) hrm.1 hrm.2 (Nat.zero_le _) (Nat.zero_le _) r1 ?_
      have k2 := k p e s m args below meth c H locs lm hok hx hb hml hr hlk hown hts hE hS hR hl hlen hls (zz_all1 (P := zz_ok X) hin o3)
      rw [r2'] at k2
      have ev : Int32.ofInt (max x y) = if Int32.ofInt x < Int32.ofInt y then Int32.ofInt y else Int32.ofInt x := by
        by_cases q : x < y
        · rw [if_pos ((zz_lt0 o2 o1).mpr q), Int.max_eq_right (by omega)]
        · rw [if_neg (fun z => q ((zz_lt0 o2 o1).mp z)), Int.max_eq_left (by omega)]
      simp only [List.map_cons, zz_toV, ev] at k2
      exact k2
    · rename_i idx y x r'
      cases h
      simp only [zz_ck, Bool.and_eq_true, decide_eq_true_eq] at r3
      obtain ⟨el, r3⟩ := r3
      subst el
      have hlink := hts _ (r4 (.methodLink P.y.cls idx (zz_mn 300)) List.mem_cons_self)
      obtain ⟨o1, o2, o3⟩ := zz_fm2 hst
      have r2' : zz_pc P (j + 1) = pc + 3 := r2 rfl
      have hin : zz_in (min x y) := by
        rcases Int.le_total x y with q | q
        · rw [Int.min_eq_left q]; exact o2
        · rw [Int.min_eq_right q]; exact o1
      refine va_mmin hx hb (hml.trans hl.1.symm) hown hlink (hts _ zv_t_min) (hts _ zv_i_mat) (hts _ zv_c_min) hrm.1 hrm.2 (Nat.zero_le _) (Nat.zero_le _) r1 ?_
      have k2 := k p e s m args below meth c H locs lm hok hx hb hml hr hlk hown hts hE hS hR hl hlen hls (zz_all1 (P := zz_ok X) hin o3)
      rw [r2'] at k2
      have ev : Int32.ofInt (min x y) = if Int32.ofInt y < Int32.ofInt x then Int32.ofInt y else Int32.ofInt x := by
        by_cases q : y < x
        · rw [if_pos ((zz_lt0 o1 o2).mpr q), Int.min_eq_right (by omega)]
        · rw [if_neg (fun z => q ((zz_lt0 o1 o2).mp z)), Int.min_eq_left (by omega)]
      simp only [List.map_cons, zz_toV, ev] at k2
      exact k2
    · rename_i idx x r'
      cases h
      simp only [zz_ck, Bool.and_eq_true, decide_eq_true_eq] at r3
      obtain ⟨el, r3⟩ := r3
      subst el
      have hlink := hts _ (r4 (.methodLink P.y.cls idx (zz_mn 301)) List.mem_cons_self)
      obtain ⟨o1, o3⟩ := List.forall_mem_cons.mp hst
      have r2' : zz_pc P (j + 1) = pc + 3 := r2 rfl
      refine va_mabs hx hb (hml.trans hl.1.symm) hown hlink (hts _ zv_t_abs) (hts _ zv_i_mat) (hts _ zv_c_abs) hrm.1 hrm.2 (Nat.zero_le _) (Nat.zero_le _) r1 ?_
      have k2 := k p e s m args below meth c H locs lm hok hx hb hml hr hlk hown hts hE hS hR hl hlen hls (zz_all1 (P := zz_ok X) (zz_i32 _) o3)
      rw [r2'] at k2
      have ev := zz_b_of (fun a _ => if a < 0 then -a else a) x 0
      simp only [List.map_cons, zz_toV, ev] at k2
      exact k2
    · cases h
end ZX
end
