section
-- ===== PART A: goes FIRST, ahead of the names: the tables' words, and 'selects' of the private methods out of them =====
/-- a private method of a class that the tables say can be made, by its rows of tables_1 -/
def lw_okq (q : MethodName × Nat) : Prop := (q.1.cls ≠ "java/lang/invoke/MethodHandle" ∧ q.1.cls ≠ "java/lang/invoke/VarHandle") ∧ Cond.instantiable q.1.cls q.2 ∈ tables_1 ∧ Cond.privateMethod q.1 ∈ tables_1 ∧ Cond.instanceMethod q.1 ∈ tables_1
theorem lw_p0 : lw_okq (⟨"TurnQueues$Reader", "step", "(LTurnQueues$Bytes;)V"⟩, 8) := ⟨⟨by decide +kernel, by decide +kernel⟩, List.mem_of_getElem? (i := 49) (by decide +kernel), List.mem_of_getElem? (i := 501) (by decide +kernel), List.mem_of_getElem? (i := 502) (by decide +kernel)⟩
theorem lw_p1 : lw_okq (⟨"TurnQueues$Reader", "readWord", "(LTurnQueues$Bytes;)V"⟩, 8) := ⟨⟨by decide +kernel, by decide +kernel⟩, List.mem_of_getElem? (i := 49) (by decide +kernel), List.mem_of_getElem? (i := 515) (by decide +kernel), List.mem_of_getElem? (i := 516) (by decide +kernel)⟩
theorem lw_p2 : lw_okq (⟨"TurnQueues$Reader", "readNumber", "(LTurnQueues$Bytes;)V"⟩, 8) := ⟨⟨by decide +kernel, by decide +kernel⟩, List.mem_of_getElem? (i := 49) (by decide +kernel), List.mem_of_getElem? (i := 522) (by decide +kernel), List.mem_of_getElem? (i := 523) (by decide +kernel)⟩
theorem lw_p3 : lw_okq (⟨"TurnQueues$Reader", "readHouseLine", "(LTurnQueues$Bytes;)V"⟩, 8) := ⟨⟨by decide +kernel, by decide +kernel⟩, List.mem_of_getElem? (i := 49) (by decide +kernel), List.mem_of_getElem? (i := 529) (by decide +kernel), List.mem_of_getElem? (i := 530) (by decide +kernel)⟩
theorem lw_p4 : lw_okq (⟨"TurnQueues$Reader", "expectWord", "(LTurnQueues$Bytes;Ljava/lang/String;)V"⟩, 8) := ⟨⟨by decide +kernel, by decide +kernel⟩, List.mem_of_getElem? (i := 49) (by decide +kernel), List.mem_of_getElem? (i := 534) (by decide +kernel), List.mem_of_getElem? (i := 535) (by decide +kernel)⟩
theorem lw_p5 : lw_okq (⟨"TurnQueues$Reader", "isWord", "(LTurnQueues$Bytes;Ljava/lang/String;)Z"⟩, 8) := ⟨⟨by decide +kernel, by decide +kernel⟩, List.mem_of_getElem? (i := 49) (by decide +kernel), List.mem_of_getElem? (i := 538) (by decide +kernel), List.mem_of_getElem? (i := 539) (by decide +kernel)⟩
theorem lw_p6 : lw_okq (⟨"TurnQueues$Reader", "refuse", "(I)V"⟩, 8) := ⟨⟨by decide +kernel, by decide +kernel⟩, List.mem_of_getElem? (i := 49) (by decide +kernel), List.mem_of_getElem? (i := 590) (by decide +kernel), List.mem_of_getElem? (i := 591) (by decide +kernel)⟩
theorem lw_p7 : lw_okq (⟨"TurnQueues$Reader", "expectNumber", "(LTurnQueues$Bytes;II)I"⟩, 8) := ⟨⟨by decide +kernel, by decide +kernel⟩, List.mem_of_getElem? (i := 49) (by decide +kernel), List.mem_of_getElem? (i := 595) (by decide +kernel), List.mem_of_getElem? (i := 596) (by decide +kernel)⟩
theorem lw_p8 : lw_okq (⟨"TurnQueues$Reader", "expectSign", "(LTurnQueues$Bytes;)V"⟩, 8) := ⟨⟨by decide +kernel, by decide +kernel⟩, List.mem_of_getElem? (i := 49) (by decide +kernel), List.mem_of_getElem? (i := 600) (by decide +kernel), List.mem_of_getElem? (i := 601) (by decide +kernel)⟩
theorem lw_p9 : lw_okq (⟨"TurnQueues$Reader", "readDeedLine", "(LTurnQueues$Bytes;)V"⟩, 8) := ⟨⟨by decide +kernel, by decide +kernel⟩, List.mem_of_getElem? (i := 49) (by decide +kernel), List.mem_of_getElem? (i := 604) (by decide +kernel), List.mem_of_getElem? (i := 605) (by decide +kernel)⟩
theorem lw_p10 : lw_okq (⟨"TurnQueues$Reader", "kindOfWord", "(LTurnQueues$Bytes;)I"⟩, 8) := ⟨⟨by decide +kernel, by decide +kernel⟩, List.mem_of_getElem? (i := 49) (by decide +kernel), List.mem_of_getElem? (i := 608) (by decide +kernel), List.mem_of_getElem? (i := 609) (by decide +kernel)⟩
theorem lw_p11 : lw_okq (⟨"TurnQueues$Reader", "expectVersion", "(LTurnQueues$Bytes;Z)I"⟩, 8) := ⟨⟨by decide +kernel, by decide +kernel⟩, List.mem_of_getElem? (i := 49) (by decide +kernel), List.mem_of_getElem? (i := 619) (by decide +kernel), List.mem_of_getElem? (i := 620) (by decide +kernel)⟩
theorem lw_p12 : lw_okq (⟨"TurnQueues$History", "enact", "(I)V"⟩, 11) := ⟨⟨by decide +kernel, by decide +kernel⟩, List.mem_of_getElem? (i := 141) (by decide +kernel), List.mem_of_getElem? (i := 643) (by decide +kernel), List.mem_of_getElem? (i := 644) (by decide +kernel)⟩
theorem lw_p13 : lw_okq (⟨"TurnQueues$Numbers", "insert", "(II)V"⟩, 2) := ⟨⟨by decide +kernel, by decide +kernel⟩, List.mem_of_getElem? (i := 316) (by decide +kernel), List.mem_of_getElem? (i := 676) (by decide +kernel), List.mem_of_getElem? (i := 677) (by decide +kernel)⟩
theorem lw_p14 : lw_okq (⟨"TurnQueues$Numbers", "remove", "(I)I"⟩, 2) := ⟨⟨by decide +kernel, by decide +kernel⟩, List.mem_of_getElem? (i := 316) (by decide +kernel), List.mem_of_getElem? (i := 680) (by decide +kernel), List.mem_of_getElem? (i := 681) (by decide +kernel)⟩
theorem lw_p15 : lw_okq (⟨"TurnQueues$Mill", "change", "(LTurnQueues$State;II)V"⟩, 8) := ⟨⟨by decide +kernel, by decide +kernel⟩, List.mem_of_getElem? (i := 149) (by decide +kernel), List.mem_of_getElem? (i := 696) (by decide +kernel), List.mem_of_getElem? (i := 697) (by decide +kernel)⟩
def lw_privs_1 : List (MethodName × Nat) := [(⟨"TurnQueues$Reader", "step", "(LTurnQueues$Bytes;)V"⟩, 8), (⟨"TurnQueues$Reader", "readWord", "(LTurnQueues$Bytes;)V"⟩, 8), (⟨"TurnQueues$Reader", "readNumber", "(LTurnQueues$Bytes;)V"⟩, 8), (⟨"TurnQueues$Reader", "readHouseLine", "(LTurnQueues$Bytes;)V"⟩, 8), (⟨"TurnQueues$Reader", "expectWord", "(LTurnQueues$Bytes;Ljava/lang/String;)V"⟩, 8), (⟨"TurnQueues$Reader", "isWord", "(LTurnQueues$Bytes;Ljava/lang/String;)Z"⟩, 8), (⟨"TurnQueues$Reader", "refuse", "(I)V"⟩, 8), (⟨"TurnQueues$Reader", "expectNumber", "(LTurnQueues$Bytes;II)I"⟩, 8), (⟨"TurnQueues$Reader", "expectSign", "(LTurnQueues$Bytes;)V"⟩, 8), (⟨"TurnQueues$Reader", "readDeedLine", "(LTurnQueues$Bytes;)V"⟩, 8), (⟨"TurnQueues$Reader", "kindOfWord", "(LTurnQueues$Bytes;)I"⟩, 8), (⟨"TurnQueues$Reader", "expectVersion", "(LTurnQueues$Bytes;Z)I"⟩, 8), (⟨"TurnQueues$History", "enact", "(I)V"⟩, 11), (⟨"TurnQueues$Numbers", "insert", "(II)V"⟩, 2), (⟨"TurnQueues$Numbers", "remove", "(I)I"⟩, 2), (⟨"TurnQueues$Mill", "change", "(LTurnQueues$State;II)V"⟩, 8)]
theorem lw_r1 : ∀ q ∈ lw_privs_1, lw_okq q := List.forall_mem_cons.mpr ⟨lw_p0, List.forall_mem_cons.mpr ⟨lw_p1, List.forall_mem_cons.mpr ⟨lw_p2, List.forall_mem_cons.mpr ⟨lw_p3, List.forall_mem_cons.mpr ⟨lw_p4, List.forall_mem_cons.mpr ⟨lw_p5, List.forall_mem_cons.mpr ⟨lw_p6, List.forall_mem_cons.mpr ⟨lw_p7, List.forall_mem_cons.mpr ⟨lw_p8, List.forall_mem_cons.mpr ⟨lw_p9, List.forall_mem_cons.mpr ⟨lw_p10, List.forall_mem_cons.mpr ⟨lw_p11, List.forall_mem_cons.mpr ⟨lw_p12, List.forall_mem_cons.mpr ⟨lw_p13, List.forall_mem_cons.mpr ⟨lw_p14, List.forall_mem_cons.mpr ⟨lw_p15, fun _ h => absurd h List.not_mem_nil⟩⟩⟩⟩⟩⟩⟩⟩⟩⟩⟩⟩⟩⟩⟩⟩
theorem lw_p16 : lw_okq (⟨"TurnQueues$Mill", "disown", "(LTurnQueues$State;)V"⟩, 8) := ⟨⟨by decide +kernel, by decide +kernel⟩, List.mem_of_getElem? (i := 149) (by decide +kernel), List.mem_of_getElem? (i := 705) (by decide +kernel), List.mem_of_getElem? (i := 706) (by decide +kernel)⟩
theorem lw_p17 : lw_okq (⟨"TurnQueues$Mill", "turnAtOnce", "(LTurnQueues$State;)V"⟩, 8) := ⟨⟨by decide +kernel, by decide +kernel⟩, List.mem_of_getElem? (i := 149) (by decide +kernel), List.mem_of_getElem? (i := 713) (by decide +kernel), List.mem_of_getElem? (i := 714) (by decide +kernel)⟩
theorem lw_p18 : lw_okq (⟨"TurnQueues$Mill", "move", "(LTurnQueues$Row;LTurnQueues$Row;)V"⟩, 8) := ⟨⟨by decide +kernel, by decide +kernel⟩, List.mem_of_getElem? (i := 149) (by decide +kernel), List.mem_of_getElem? (i := 717) (by decide +kernel), List.mem_of_getElem? (i := 718) (by decide +kernel)⟩
theorem lw_p19 : lw_okq (⟨"TurnQueues$Mill", "turnBySteps", "(LTurnQueues$State;)V"⟩, 8) := ⟨⟨by decide +kernel, by decide +kernel⟩, List.mem_of_getElem? (i := 149) (by decide +kernel), List.mem_of_getElem? (i := 725) (by decide +kernel), List.mem_of_getElem? (i := 726) (by decide +kernel)⟩
theorem lw_p20 : lw_okq (⟨"TurnQueues$Mill", "beginTurning", "(LTurnQueues$State;)V"⟩, 8) := ⟨⟨by decide +kernel, by decide +kernel⟩, List.mem_of_getElem? (i := 149) (by decide +kernel), List.mem_of_getElem? (i := 729) (by decide +kernel), List.mem_of_getElem? (i := 730) (by decide +kernel)⟩
theorem lw_p21 : lw_okq (⟨"TurnQueues$Mill", "turnOnce", "(LTurnQueues$State;)V"⟩, 8) := ⟨⟨by decide +kernel, by decide +kernel⟩, List.mem_of_getElem? (i := 149) (by decide +kernel), List.mem_of_getElem? (i := 743) (by decide +kernel), List.mem_of_getElem? (i := 744) (by decide +kernel)⟩
theorem lw_p22 : lw_okq (⟨"TurnQueues$Mill", "even", "(LTurnQueues$State;I)V"⟩, 8) := ⟨⟨by decide +kernel, by decide +kernel⟩, List.mem_of_getElem? (i := 149) (by decide +kernel), List.mem_of_getElem? (i := 747) (by decide +kernel), List.mem_of_getElem? (i := 748) (by decide +kernel)⟩
theorem lw_p23 : lw_okq (⟨"TurnQueues$Mill", "split", "(LTurnQueues$State;LTurnQueues$Row;LTurnQueues$Row;)V"⟩, 8) := ⟨⟨by decide +kernel, by decide +kernel⟩, List.mem_of_getElem? (i := 149) (by decide +kernel), List.mem_of_getElem? (i := 752) (by decide +kernel), List.mem_of_getElem? (i := 753) (by decide +kernel)⟩
theorem lw_p24 : lw_okq (⟨"TurnQueues$Mill", "lay", "(LTurnQueues$Row;II)V"⟩, 8) := ⟨⟨by decide +kernel, by decide +kernel⟩, List.mem_of_getElem? (i := 149) (by decide +kernel), List.mem_of_getElem? (i := 756) (by decide +kernel), List.mem_of_getElem? (i := 757) (by decide +kernel)⟩
theorem lw_p25 : lw_okq (⟨"TurnQueues$Mill", "laidAt", "(I)I"⟩, 8) := ⟨⟨by decide +kernel, by decide +kernel⟩, List.mem_of_getElem? (i := 149) (by decide +kernel), List.mem_of_getElem? (i := 764) (by decide +kernel), List.mem_of_getElem? (i := 765) (by decide +kernel)⟩
theorem lw_p26 : lw_okq (⟨"TurnQueues$History", "writeRow", "(LTurnQueues$Bytes;Ljava/lang/String;LTurnQueues$Row;)V"⟩, 11) := ⟨⟨by decide +kernel, by decide +kernel⟩, List.mem_of_getElem? (i := 141) (by decide +kernel), List.mem_of_getElem? (i := 890) (by decide +kernel), List.mem_of_getElem? (i := 891) (by decide +kernel)⟩
theorem lw_p27 : lw_okq (⟨"TurnQueues$History", "writeTurn", "(LTurnQueues$Bytes;LTurnQueues$State;)V"⟩, 11) := ⟨⟨by decide +kernel, by decide +kernel⟩, List.mem_of_getElem? (i := 141) (by decide +kernel), List.mem_of_getElem? (i := 908) (by decide +kernel), List.mem_of_getElem? (i := 909) (by decide +kernel)⟩
theorem lw_p28 : lw_okq (⟨"TurnQueues$History", "writeCount", "(LTurnQueues$Bytes;Ljava/lang/String;I)V"⟩, 11) := ⟨⟨by decide +kernel, by decide +kernel⟩, List.mem_of_getElem? (i := 141) (by decide +kernel), List.mem_of_getElem? (i := 913) (by decide +kernel), List.mem_of_getElem? (i := 914) (by decide +kernel)⟩
theorem lw_p29 : lw_okq (⟨"TurnQueues$Cells", "markRow", "(LTurnQueues$Row;I)I"⟩, 6) := ⟨⟨by decide +kernel, by decide +kernel⟩, List.mem_of_getElem? (i := 155) (by decide +kernel), List.mem_of_getElem? (i := 982) (by decide +kernel), List.mem_of_getElem? (i := 983) (by decide +kernel)⟩
theorem lw_p30 : lw_okq (⟨"TurnQueues$Trial", "begin", "(LTurnQueues$Deeds;LTurnQueues$State;)V"⟩, 7) := ⟨⟨by decide +kernel, by decide +kernel⟩, List.mem_of_getElem? (i := 369) (by decide +kernel), List.mem_of_getElem? (i := 1091) (by decide +kernel), List.mem_of_getElem? (i := 1092) (by decide +kernel)⟩
theorem lw_p31 : lw_okq (⟨"TurnQueues$Scout", "noteRow", "(I)V"⟩, 9) := ⟨⟨by decide +kernel, by decide +kernel⟩, List.mem_of_getElem? (i := 407) (by decide +kernel), List.mem_of_getElem? (i := 1121) (by decide +kernel), List.mem_of_getElem? (i := 1122) (by decide +kernel)⟩
def lw_privs_2 : List (MethodName × Nat) := [(⟨"TurnQueues$Mill", "disown", "(LTurnQueues$State;)V"⟩, 8), (⟨"TurnQueues$Mill", "turnAtOnce", "(LTurnQueues$State;)V"⟩, 8), (⟨"TurnQueues$Mill", "move", "(LTurnQueues$Row;LTurnQueues$Row;)V"⟩, 8), (⟨"TurnQueues$Mill", "turnBySteps", "(LTurnQueues$State;)V"⟩, 8), (⟨"TurnQueues$Mill", "beginTurning", "(LTurnQueues$State;)V"⟩, 8), (⟨"TurnQueues$Mill", "turnOnce", "(LTurnQueues$State;)V"⟩, 8), (⟨"TurnQueues$Mill", "even", "(LTurnQueues$State;I)V"⟩, 8), (⟨"TurnQueues$Mill", "split", "(LTurnQueues$State;LTurnQueues$Row;LTurnQueues$Row;)V"⟩, 8), (⟨"TurnQueues$Mill", "lay", "(LTurnQueues$Row;II)V"⟩, 8), (⟨"TurnQueues$Mill", "laidAt", "(I)I"⟩, 8), (⟨"TurnQueues$History", "writeRow", "(LTurnQueues$Bytes;Ljava/lang/String;LTurnQueues$Row;)V"⟩, 11), (⟨"TurnQueues$History", "writeTurn", "(LTurnQueues$Bytes;LTurnQueues$State;)V"⟩, 11), (⟨"TurnQueues$History", "writeCount", "(LTurnQueues$Bytes;Ljava/lang/String;I)V"⟩, 11), (⟨"TurnQueues$Cells", "markRow", "(LTurnQueues$Row;I)I"⟩, 6), (⟨"TurnQueues$Trial", "begin", "(LTurnQueues$Deeds;LTurnQueues$State;)V"⟩, 7), (⟨"TurnQueues$Scout", "noteRow", "(I)V"⟩, 9)]
theorem lw_r2 : ∀ q ∈ lw_privs_2, lw_okq q := List.forall_mem_cons.mpr ⟨lw_p16, List.forall_mem_cons.mpr ⟨lw_p17, List.forall_mem_cons.mpr ⟨lw_p18, List.forall_mem_cons.mpr ⟨lw_p19, List.forall_mem_cons.mpr ⟨lw_p20, List.forall_mem_cons.mpr ⟨lw_p21, List.forall_mem_cons.mpr ⟨lw_p22, List.forall_mem_cons.mpr ⟨lw_p23, List.forall_mem_cons.mpr ⟨lw_p24, List.forall_mem_cons.mpr ⟨lw_p25, List.forall_mem_cons.mpr ⟨lw_p26, List.forall_mem_cons.mpr ⟨lw_p27, List.forall_mem_cons.mpr ⟨lw_p28, List.forall_mem_cons.mpr ⟨lw_p29, List.forall_mem_cons.mpr ⟨lw_p30, List.forall_mem_cons.mpr ⟨lw_p31, fun _ h => absurd h List.not_mem_nil⟩⟩⟩⟩⟩⟩⟩⟩⟩⟩⟩⟩⟩⟩⟩⟩
theorem lw_p32 : lw_okq (⟨"TurnQueues$Scout", "noteDeed", "(III)V"⟩, 9) := ⟨⟨by decide +kernel, by decide +kernel⟩, List.mem_of_getElem? (i := 407) (by decide +kernel), List.mem_of_getElem? (i := 1126) (by decide +kernel), List.mem_of_getElem? (i := 1127) (by decide +kernel)⟩
theorem lw_p33 : lw_okq (⟨"TurnQueues$Trial", "graftDeed", "(LTurnQueues$Deeds;I)V"⟩, 7) := ⟨⟨by decide +kernel, by decide +kernel⟩, List.mem_of_getElem? (i := 369) (by decide +kernel), List.mem_of_getElem? (i := 1195) (by decide +kernel), List.mem_of_getElem? (i := 1196) (by decide +kernel)⟩
theorem lw_p34 : lw_okq (⟨"TurnQueuesModel", "advance", "()V"⟩, 58) := ⟨⟨by decide +kernel, by decide +kernel⟩, List.mem_of_getElem? (i := 1259) (by decide +kernel), List.mem_of_getElem? (i := 1458) (by decide +kernel), List.mem_of_getElem? (i := 1459) (by decide +kernel)⟩
theorem lw_p35 : lw_okq (⟨"TurnQueuesModel", "see", "(I)I"⟩, 58) := ⟨⟨by decide +kernel, by decide +kernel⟩, List.mem_of_getElem? (i := 1259) (by decide +kernel), List.mem_of_getElem? (i := 1462) (by decide +kernel), List.mem_of_getElem? (i := 1463) (by decide +kernel)⟩
theorem lw_p36 : lw_okq (⟨"TurnQueuesModel", "good", "()Z"⟩, 58) := ⟨⟨by decide +kernel, by decide +kernel⟩, List.mem_of_getElem? (i := 1259) (by decide +kernel), List.mem_of_getElem? (i := 1472) (by decide +kernel), List.mem_of_getElem? (i := 1473) (by decide +kernel)⟩
theorem lw_p37 : lw_okq (⟨"TurnQueuesModel", "is", "(Ljava/lang/String;)Z"⟩, 58) := ⟨⟨by decide +kernel, by decide +kernel⟩, List.mem_of_getElem? (i := 1259) (by decide +kernel), List.mem_of_getElem? (i := 1477) (by decide +kernel), List.mem_of_getElem? (i := 1478) (by decide +kernel)⟩
theorem lw_p38 : lw_okq (⟨"TurnQueuesModel", "errs", "(I)V"⟩, 58) := ⟨⟨by decide +kernel, by decide +kernel⟩, List.mem_of_getElem? (i := 1259) (by decide +kernel), List.mem_of_getElem? (i := 1483) (by decide +kernel), List.mem_of_getElem? (i := 1484) (by decide +kernel)⟩
theorem lw_p39 : lw_okq (⟨"TurnQueuesModel", "told", "(Ljava/lang/String;II)I"⟩, 58) := ⟨⟨by decide +kernel, by decide +kernel⟩, List.mem_of_getElem? (i := 1259) (by decide +kernel), List.mem_of_getElem? (i := 1488) (by decide +kernel), List.mem_of_getElem? (i := 1489) (by decide +kernel)⟩
theorem lw_p40 : lw_okq (⟨"TurnQueuesModel", "takes", "(II)I"⟩, 58) := ⟨⟨by decide +kernel, by decide +kernel⟩, List.mem_of_getElem? (i := 1259) (by decide +kernel), List.mem_of_getElem? (i := 1492) (by decide +kernel), List.mem_of_getElem? (i := 1493) (by decide +kernel)⟩
theorem lw_p41 : lw_okq (⟨"TurnQueuesModel", "readDeed", "()V"⟩, 58) := ⟨⟨by decide +kernel, by decide +kernel⟩, List.mem_of_getElem? (i := 1259) (by decide +kernel), List.mem_of_getElem? (i := 1497) (by decide +kernel), List.mem_of_getElem? (i := 1498) (by decide +kernel)⟩
theorem lw_p42 : lw_okq (⟨"TurnQueuesModel", "kindHere", "()I"⟩, 58) := ⟨⟨by decide +kernel, by decide +kernel⟩, List.mem_of_getElem? (i := 1259) (by decide +kernel), List.mem_of_getElem? (i := 1501) (by decide +kernel), List.mem_of_getElem? (i := 1502) (by decide +kernel)⟩
theorem lw_p43 : lw_okq (⟨"TurnQueuesModel", "beginsHouse", "()V"⟩, 58) := ⟨⟨by decide +kernel, by decide +kernel⟩, List.mem_of_getElem? (i := 1259) (by decide +kernel), List.mem_of_getElem? (i := 1509) (by decide +kernel), List.mem_of_getElem? (i := 1510) (by decide +kernel)⟩
theorem lw_p44 : lw_okq (⟨"TurnQueuesModel", "empties", "(I)V"⟩, 58) := ⟨⟨by decide +kernel, by decide +kernel⟩, List.mem_of_getElem? (i := 1259) (by decide +kernel), List.mem_of_getElem? (i := 1513) (by decide +kernel), List.mem_of_getElem? (i := 1514) (by decide +kernel)⟩
theorem lw_p45 : lw_okq (⟨"TurnQueuesModel", "sets", "(III)V"⟩, 58) := ⟨⟨by decide +kernel, by decide +kernel⟩, List.mem_of_getElem? (i := 1259) (by decide +kernel), List.mem_of_getElem? (i := 1517) (by decide +kernel), List.mem_of_getElem? (i := 1518) (by decide +kernel)⟩
theorem lw_p46 : lw_okq (⟨"TurnQueuesModel", "makes", "(III)I"⟩, 58) := ⟨⟨by decide +kernel, by decide +kernel⟩, List.mem_of_getElem? (i := 1259) (by decide +kernel), List.mem_of_getElem? (i := 1521) (by decide +kernel), List.mem_of_getElem? (i := 1522) (by decide +kernel)⟩
theorem lw_p47 : lw_okq (⟨"TurnQueuesModel", "asked", "(II)I"⟩, 58) := ⟨⟨by decide +kernel, by decide +kernel⟩, List.mem_of_getElem? (i := 1259) (by decide +kernel), List.mem_of_getElem? (i := 1525) (by decide +kernel), List.mem_of_getElem? (i := 1526) (by decide +kernel)⟩
def lw_privs_3 : List (MethodName × Nat) := [(⟨"TurnQueues$Scout", "noteDeed", "(III)V"⟩, 9), (⟨"TurnQueues$Trial", "graftDeed", "(LTurnQueues$Deeds;I)V"⟩, 7), (⟨"TurnQueuesModel", "advance", "()V"⟩, 58), (⟨"TurnQueuesModel", "see", "(I)I"⟩, 58), (⟨"TurnQueuesModel", "good", "()Z"⟩, 58), (⟨"TurnQueuesModel", "is", "(Ljava/lang/String;)Z"⟩, 58), (⟨"TurnQueuesModel", "errs", "(I)V"⟩, 58), (⟨"TurnQueuesModel", "told", "(Ljava/lang/String;II)I"⟩, 58), (⟨"TurnQueuesModel", "takes", "(II)I"⟩, 58), (⟨"TurnQueuesModel", "readDeed", "()V"⟩, 58), (⟨"TurnQueuesModel", "kindHere", "()I"⟩, 58), (⟨"TurnQueuesModel", "beginsHouse", "()V"⟩, 58), (⟨"TurnQueuesModel", "empties", "(I)V"⟩, 58), (⟨"TurnQueuesModel", "sets", "(III)V"⟩, 58), (⟨"TurnQueuesModel", "makes", "(III)I"⟩, 58), (⟨"TurnQueuesModel", "asked", "(II)I"⟩, 58)]
theorem lw_r3 : ∀ q ∈ lw_privs_3, lw_okq q := List.forall_mem_cons.mpr ⟨lw_p32, List.forall_mem_cons.mpr ⟨lw_p33, List.forall_mem_cons.mpr ⟨lw_p34, List.forall_mem_cons.mpr ⟨lw_p35, List.forall_mem_cons.mpr ⟨lw_p36, List.forall_mem_cons.mpr ⟨lw_p37, List.forall_mem_cons.mpr ⟨lw_p38, List.forall_mem_cons.mpr ⟨lw_p39, List.forall_mem_cons.mpr ⟨lw_p40, List.forall_mem_cons.mpr ⟨lw_p41, List.forall_mem_cons.mpr ⟨lw_p42, List.forall_mem_cons.mpr ⟨lw_p43, List.forall_mem_cons.mpr ⟨lw_p44, List.forall_mem_cons.mpr ⟨lw_p45, List.forall_mem_cons.mpr ⟨lw_p46, List.forall_mem_cons.mpr ⟨lw_p47, fun _ h => absurd h List.not_mem_nil⟩⟩⟩⟩⟩⟩⟩⟩⟩⟩⟩⟩⟩⟩⟩⟩
theorem lw_p48 : lw_okq (⟨"TurnQueuesModel", "laysQueue", "(IIII)V"⟩, 58) := ⟨⟨by decide +kernel, by decide +kernel⟩, List.mem_of_getElem? (i := 1259) (by decide +kernel), List.mem_of_getElem? (i := 1529) (by decide +kernel), List.mem_of_getElem? (i := 1530) (by decide +kernel)⟩
theorem lw_p49 : lw_okq (⟨"TurnQueuesModel", "deeds", "(IIII)I"⟩, 58) := ⟨⟨by decide +kernel, by decide +kernel⟩, List.mem_of_getElem? (i := 1259) (by decide +kernel), List.mem_of_getElem? (i := 1533) (by decide +kernel), List.mem_of_getElem? (i := 1534) (by decide +kernel)⟩
theorem lw_p50 : lw_okq (⟨"TurnQueuesModel", "copies", "(II)V"⟩, 58) := ⟨⟨by decide +kernel, by decide +kernel⟩, List.mem_of_getElem? (i := 1259) (by decide +kernel), List.mem_of_getElem? (i := 1537) (by decide +kernel), List.mem_of_getElem? (i := 1538) (by decide +kernel)⟩
theorem lw_p51 : lw_okq (⟨"TurnQueuesModel", "of", "(II)I"⟩, 58) := ⟨⟨by decide +kernel, by decide +kernel⟩, List.mem_of_getElem? (i := 1259) (by decide +kernel), List.mem_of_getElem? (i := 1541) (by decide +kernel), List.mem_of_getElem? (i := 1542) (by decide +kernel)⟩
theorem lw_p52 : lw_okq (⟨"TurnQueuesModel", "pushes", "(III)V"⟩, 58) := ⟨⟨by decide +kernel, by decide +kernel⟩, List.mem_of_getElem? (i := 1259) (by decide +kernel), List.mem_of_getElem? (i := 1545) (by decide +kernel), List.mem_of_getElem? (i := 1546) (by decide +kernel)⟩
theorem lw_p53 : lw_okq (⟨"TurnQueuesModel", "ahead", "(II)I"⟩, 58) := ⟨⟨by decide +kernel, by decide +kernel⟩, List.mem_of_getElem? (i := 1259) (by decide +kernel), List.mem_of_getElem? (i := 1549) (by decide +kernel), List.mem_of_getElem? (i := 1550) (by decide +kernel)⟩
theorem lw_p54 : lw_okq (⟨"TurnQueuesModel", "pops", "(II)I"⟩, 58) := ⟨⟨by decide +kernel, by decide +kernel⟩, List.mem_of_getElem? (i := 1259) (by decide +kernel), List.mem_of_getElem? (i := 1553) (by decide +kernel), List.mem_of_getElem? (i := 1554) (by decide +kernel)⟩
theorem lw_p55 : lw_okq (⟨"TurnQueuesModel", "turnsAll", "(I)V"⟩, 58) := ⟨⟨by decide +kernel, by decide +kernel⟩, List.mem_of_getElem? (i := 1259) (by decide +kernel), List.mem_of_getElem? (i := 1557) (by decide +kernel), List.mem_of_getElem? (i := 1558) (by decide +kernel)⟩
theorem lw_p56 : lw_okq (⟨"TurnQueuesModel", "goesOn", "(IZ)V"⟩, 58) := ⟨⟨by decide +kernel, by decide +kernel⟩, List.mem_of_getElem? (i := 1259) (by decide +kernel), List.mem_of_getElem? (i := 1561) (by decide +kernel), List.mem_of_getElem? (i := 1562) (by decide +kernel)⟩
theorem lw_p57 : lw_okq (⟨"TurnQueuesModel", "takenBy", "(I)V"⟩, 58) := ⟨⟨by decide +kernel, by decide +kernel⟩, List.mem_of_getElem? (i := 1259) (by decide +kernel), List.mem_of_getElem? (i := 1565) (by decide +kernel), List.mem_of_getElem? (i := 1566) (by decide +kernel)⟩
theorem lw_p58 : lw_okq (⟨"TurnQueuesModel", "becomesReady", "(I)V"⟩, 58) := ⟨⟨by decide +kernel, by decide +kernel⟩, List.mem_of_getElem? (i := 1259) (by decide +kernel), List.mem_of_getElem? (i := 1569) (by decide +kernel), List.mem_of_getElem? (i := 1570) (by decide +kernel)⟩
theorem lw_p59 : lw_okq (⟨"TurnQueuesModel", "lengthOf", "(I)I"⟩, 58) := ⟨⟨by decide +kernel, by decide +kernel⟩, List.mem_of_getElem? (i := 1259) (by decide +kernel), List.mem_of_getElem? (i := 1573) (by decide +kernel), List.mem_of_getElem? (i := 1574) (by decide +kernel)⟩
theorem lw_p60 : lw_okq (⟨"TurnQueuesModel", "begins", "(II)V"⟩, 58) := ⟨⟨by decide +kernel, by decide +kernel⟩, List.mem_of_getElem? (i := 1259) (by decide +kernel), List.mem_of_getElem? (i := 1577) (by decide +kernel), List.mem_of_getElem? (i := 1578) (by decide +kernel)⟩
theorem lw_p61 : lw_okq (⟨"TurnQueuesModel", "turns", "(I)V"⟩, 58) := ⟨⟨by decide +kernel, by decide +kernel⟩, List.mem_of_getElem? (i := 1259) (by decide +kernel), List.mem_of_getElem? (i := 1581) (by decide +kernel), List.mem_of_getElem? (i := 1582) (by decide +kernel)⟩
theorem lw_p62 : lw_okq (⟨"TurnQueuesModel", "evens", "(II)V"⟩, 58) := ⟨⟨by decide +kernel, by decide +kernel⟩, List.mem_of_getElem? (i := 1259) (by decide +kernel), List.mem_of_getElem? (i := 1585) (by decide +kernel), List.mem_of_getElem? (i := 1586) (by decide +kernel)⟩
theorem lw_p63 : lw_okq (⟨"TurnQueuesModel", "evensBy", "(III)V"⟩, 58) := ⟨⟨by decide +kernel, by decide +kernel⟩, List.mem_of_getElem? (i := 1259) (by decide +kernel), List.mem_of_getElem? (i := 1589) (by decide +kernel), List.mem_of_getElem? (i := 1590) (by decide +kernel)⟩
def lw_privs_4 : List (MethodName × Nat) := [(⟨"TurnQueuesModel", "laysQueue", "(IIII)V"⟩, 58), (⟨"TurnQueuesModel", "deeds", "(IIII)I"⟩, 58), (⟨"TurnQueuesModel", "copies", "(II)V"⟩, 58), (⟨"TurnQueuesModel", "of", "(II)I"⟩, 58), (⟨"TurnQueuesModel", "pushes", "(III)V"⟩, 58), (⟨"TurnQueuesModel", "ahead", "(II)I"⟩, 58), (⟨"TurnQueuesModel", "pops", "(II)I"⟩, 58), (⟨"TurnQueuesModel", "turnsAll", "(I)V"⟩, 58), (⟨"TurnQueuesModel", "goesOn", "(IZ)V"⟩, 58), (⟨"TurnQueuesModel", "takenBy", "(I)V"⟩, 58), (⟨"TurnQueuesModel", "becomesReady", "(I)V"⟩, 58), (⟨"TurnQueuesModel", "lengthOf", "(I)I"⟩, 58), (⟨"TurnQueuesModel", "begins", "(II)V"⟩, 58), (⟨"TurnQueuesModel", "turns", "(I)V"⟩, 58), (⟨"TurnQueuesModel", "evens", "(II)V"⟩, 58), (⟨"TurnQueuesModel", "evensBy", "(III)V"⟩, 58)]
theorem lw_r4 : ∀ q ∈ lw_privs_4, lw_okq q := List.forall_mem_cons.mpr ⟨lw_p48, List.forall_mem_cons.mpr ⟨lw_p49, List.forall_mem_cons.mpr ⟨lw_p50, List.forall_mem_cons.mpr ⟨lw_p51, List.forall_mem_cons.mpr ⟨lw_p52, List.forall_mem_cons.mpr ⟨lw_p53, List.forall_mem_cons.mpr ⟨lw_p54, List.forall_mem_cons.mpr ⟨lw_p55, List.forall_mem_cons.mpr ⟨lw_p56, List.forall_mem_cons.mpr ⟨lw_p57, List.forall_mem_cons.mpr ⟨lw_p58, List.forall_mem_cons.mpr ⟨lw_p59, List.forall_mem_cons.mpr ⟨lw_p60, List.forall_mem_cons.mpr ⟨lw_p61, List.forall_mem_cons.mpr ⟨lw_p62, List.forall_mem_cons.mpr ⟨lw_p63, fun _ h => absurd h List.not_mem_nil⟩⟩⟩⟩⟩⟩⟩⟩⟩⟩⟩⟩⟩⟩⟩⟩
theorem lw_p64 : lw_okq (⟨"TurnQueuesModel", "isHouse", "()Z"⟩, 58) := ⟨⟨by decide +kernel, by decide +kernel⟩, List.mem_of_getElem? (i := 1259) (by decide +kernel), List.mem_of_getElem? (i := 1598) (by decide +kernel), List.mem_of_getElem? (i := 1599) (by decide +kernel)⟩
theorem lw_p65 : lw_okq (⟨"TurnQueuesModel", "deedMany", "()I"⟩, 58) := ⟨⟨by decide +kernel, by decide +kernel⟩, List.mem_of_getElem? (i := 1259) (by decide +kernel), List.mem_of_getElem? (i := 1602) (by decide +kernel), List.mem_of_getElem? (i := 1603) (by decide +kernel)⟩
theorem lw_p66 : lw_okq (⟨"TurnQueuesModel", "isVersion", "(I)Z"⟩, 58) := ⟨⟨by decide +kernel, by decide +kernel⟩, List.mem_of_getElem? (i := 1259) (by decide +kernel), List.mem_of_getElem? (i := 1610) (by decide +kernel), List.mem_of_getElem? (i := 1611) (by decide +kernel)⟩
theorem lw_p67 : lw_okq (⟨"TurnQueuesModel", "areLike", "(II)Z"⟩, 58) := ⟨⟨by decide +kernel, by decide +kernel⟩, List.mem_of_getElem? (i := 1259) (by decide +kernel), List.mem_of_getElem? (i := 1636) (by decide +kernel), List.mem_of_getElem? (i := 1637) (by decide +kernel)⟩
theorem lw_p68 : lw_okq (⟨"TurnQueuesModel", "meetOf", "(II)I"⟩, 58) := ⟨⟨by decide +kernel, by decide +kernel⟩, List.mem_of_getElem? (i := 1259) (by decide +kernel), List.mem_of_getElem? (i := 1648) (by decide +kernel), List.mem_of_getElem? (i := 1649) (by decide +kernel)⟩
theorem lw_p69 : lw_okq (⟨"TurnQueuesModel", "areTwins", "(II)Z"⟩, 58) := ⟨⟨by decide +kernel, by decide +kernel⟩, List.mem_of_getElem? (i := 1259) (by decide +kernel), List.mem_of_getElem? (i := 1660) (by decide +kernel), List.mem_of_getElem? (i := 1661) (by decide +kernel)⟩
theorem lw_p70 : lw_okq (⟨"TurnQueuesModel", "areLikeRows", "(III)Z"⟩, 58) := ⟨⟨by decide +kernel, by decide +kernel⟩, List.mem_of_getElem? (i := 1259) (by decide +kernel), List.mem_of_getElem? (i := 1664) (by decide +kernel), List.mem_of_getElem? (i := 1665) (by decide +kernel)⟩
theorem lw_p71 : lw_okq (⟨"TurnQueuesModel", "deepOf", "(I)I"⟩, 58) := ⟨⟨by decide +kernel, by decide +kernel⟩, List.mem_of_getElem? (i := 1259) (by decide +kernel), List.mem_of_getElem? (i := 1672) (by decide +kernel), List.mem_of_getElem? (i := 1673) (by decide +kernel)⟩
theorem lw_p72 : lw_okq (⟨"TurnQueuesModel", "deedOf", "(I)I"⟩, 58) := ⟨⟨by decide +kernel, by decide +kernel⟩, List.mem_of_getElem? (i := 1259) (by decide +kernel), List.mem_of_getElem? (i := 1685) (by decide +kernel), List.mem_of_getElem? (i := 1686) (by decide +kernel)⟩
theorem lw_p73 : lw_okq (⟨"TurnQueuesModel", "forgets", "()V"⟩, 58) := ⟨⟨by decide +kernel, by decide +kernel⟩, List.mem_of_getElem? (i := 1259) (by decide +kernel), List.mem_of_getElem? (i := 1693) (by decide +kernel), List.mem_of_getElem? (i := 1694) (by decide +kernel)⟩
theorem lw_p74 : lw_okq (⟨"TurnQueuesModel", "marks", "(II)V"⟩, 58) := ⟨⟨by decide +kernel, by decide +kernel⟩, List.mem_of_getElem? (i := 1259) (by decide +kernel), List.mem_of_getElem? (i := 1697) (by decide +kernel), List.mem_of_getElem? (i := 1698) (by decide +kernel)⟩
theorem lw_p75 : lw_okq (⟨"TurnQueuesModel", "marked", "(I)I"⟩, 58) := ⟨⟨by decide +kernel, by decide +kernel⟩, List.mem_of_getElem? (i := 1259) (by decide +kernel), List.mem_of_getElem? (i := 1709) (by decide +kernel), List.mem_of_getElem? (i := 1710) (by decide +kernel)⟩
theorem lw_p76 : lw_okq (⟨"TurnQueuesModel", "asksLaw", "(I)I"⟩, 58) := ⟨⟨by decide +kernel, by decide +kernel⟩, List.mem_of_getElem? (i := 1259) (by decide +kernel), List.mem_of_getElem? (i := 1759) (by decide +kernel), List.mem_of_getElem? (i := 1760) (by decide +kernel)⟩
theorem lw_p77 : lw_okq (⟨"TurnQueuesModel", "isTwoSided", "()Z"⟩, 58) := ⟨⟨by decide +kernel, by decide +kernel⟩, List.mem_of_getElem? (i := 1259) (by decide +kernel), List.mem_of_getElem? (i := 1763) (by decide +kernel), List.mem_of_getElem? (i := 1764) (by decide +kernel)⟩
theorem lw_p78 : lw_okq (⟨"TurnQueuesModel", "replays", "(II)I"⟩, 58) := ⟨⟨by decide +kernel, by decide +kernel⟩, List.mem_of_getElem? (i := 1259) (by decide +kernel), List.mem_of_getElem? (i := 1767) (by decide +kernel), List.mem_of_getElem? (i := 1768) (by decide +kernel)⟩
theorem lw_p79 : lw_okq (⟨"TurnQueuesModel", "isAtRest", "(I)Z"⟩, 58) := ⟨⟨by decide +kernel, by decide +kernel⟩, List.mem_of_getElem? (i := 1259) (by decide +kernel), List.mem_of_getElem? (i := 1791) (by decide +kernel), List.mem_of_getElem? (i := 1792) (by decide +kernel)⟩
def lw_privs_5 : List (MethodName × Nat) := [(⟨"TurnQueuesModel", "isHouse", "()Z"⟩, 58), (⟨"TurnQueuesModel", "deedMany", "()I"⟩, 58), (⟨"TurnQueuesModel", "isVersion", "(I)Z"⟩, 58), (⟨"TurnQueuesModel", "areLike", "(II)Z"⟩, 58), (⟨"TurnQueuesModel", "meetOf", "(II)I"⟩, 58), (⟨"TurnQueuesModel", "areTwins", "(II)Z"⟩, 58), (⟨"TurnQueuesModel", "areLikeRows", "(III)Z"⟩, 58), (⟨"TurnQueuesModel", "deepOf", "(I)I"⟩, 58), (⟨"TurnQueuesModel", "deedOf", "(I)I"⟩, 58), (⟨"TurnQueuesModel", "forgets", "()V"⟩, 58), (⟨"TurnQueuesModel", "marks", "(II)V"⟩, 58), (⟨"TurnQueuesModel", "marked", "(I)I"⟩, 58), (⟨"TurnQueuesModel", "asksLaw", "(I)I"⟩, 58), (⟨"TurnQueuesModel", "isTwoSided", "()Z"⟩, 58), (⟨"TurnQueuesModel", "replays", "(II)I"⟩, 58), (⟨"TurnQueuesModel", "isAtRest", "(I)Z"⟩, 58)]
theorem lw_r5 : ∀ q ∈ lw_privs_5, lw_okq q := List.forall_mem_cons.mpr ⟨lw_p64, List.forall_mem_cons.mpr ⟨lw_p65, List.forall_mem_cons.mpr ⟨lw_p66, List.forall_mem_cons.mpr ⟨lw_p67, List.forall_mem_cons.mpr ⟨lw_p68, List.forall_mem_cons.mpr ⟨lw_p69, List.forall_mem_cons.mpr ⟨lw_p70, List.forall_mem_cons.mpr ⟨lw_p71, List.forall_mem_cons.mpr ⟨lw_p72, List.forall_mem_cons.mpr ⟨lw_p73, List.forall_mem_cons.mpr ⟨lw_p74, List.forall_mem_cons.mpr ⟨lw_p75, List.forall_mem_cons.mpr ⟨lw_p76, List.forall_mem_cons.mpr ⟨lw_p77, List.forall_mem_cons.mpr ⟨lw_p78, List.forall_mem_cons.mpr ⟨lw_p79, fun _ h => absurd h List.not_mem_nil⟩⟩⟩⟩⟩⟩⟩⟩⟩⟩⟩⟩⟩⟩⟩⟩
theorem lw_p80 : lw_okq (⟨"TurnQueuesModel", "goesAll", "(II)V"⟩, 58) := ⟨⟨by decide +kernel, by decide +kernel⟩, List.mem_of_getElem? (i := 1259) (by decide +kernel), List.mem_of_getElem? (i := 1800) (by decide +kernel), List.mem_of_getElem? (i := 1801) (by decide +kernel)⟩
theorem lw_p81 : lw_okq (⟨"TurnQueuesModel", "goes", "(III)V"⟩, 58) := ⟨⟨by decide +kernel, by decide +kernel⟩, List.mem_of_getElem? (i := 1259) (by decide +kernel), List.mem_of_getElem? (i := 1804) (by decide +kernel), List.mem_of_getElem? (i := 1805) (by decide +kernel)⟩
theorem lw_p82 : lw_okq (⟨"TurnQueuesModel", "areThree", "(III)Z"⟩, 58) := ⟨⟨by decide +kernel, by decide +kernel⟩, List.mem_of_getElem? (i := 1259) (by decide +kernel), List.mem_of_getElem? (i := 1824) (by decide +kernel), List.mem_of_getElem? (i := 1825) (by decide +kernel)⟩
theorem lw_p83 : lw_okq (⟨"TurnQueuesModel", "laysWay", "(II)Z"⟩, 58) := ⟨⟨by decide +kernel, by decide +kernel⟩, List.mem_of_getElem? (i := 1259) (by decide +kernel), List.mem_of_getElem? (i := 1829) (by decide +kernel), List.mem_of_getElem? (i := 1830) (by decide +kernel)⟩
theorem lw_p84 : lw_okq (⟨"TurnQueuesModel", "grafts", "(I)I"⟩, 58) := ⟨⟨by decide +kernel, by decide +kernel⟩, List.mem_of_getElem? (i := 1259) (by decide +kernel), List.mem_of_getElem? (i := 1833) (by decide +kernel), List.mem_of_getElem? (i := 1834) (by decide +kernel)⟩
theorem lw_p85 : lw_okq (⟨"TurnQueuesModel", "putsIn", "(II)V"⟩, 58) := ⟨⟨by decide +kernel, by decide +kernel⟩, List.mem_of_getElem? (i := 1259) (by decide +kernel), List.mem_of_getElem? (i := 1837) (by decide +kernel), List.mem_of_getElem? (i := 1838) (by decide +kernel)⟩
theorem lw_p86 : lw_okq (⟨"TurnQueuesModel", "takesOut", "(I)V"⟩, 58) := ⟨⟨by decide +kernel, by decide +kernel⟩, List.mem_of_getElem? (i := 1259) (by decide +kernel), List.mem_of_getElem? (i := 1841) (by decide +kernel), List.mem_of_getElem? (i := 1842) (by decide +kernel)⟩
theorem lw_p87 : lw_okq (⟨"TurnQueuesModel", "tellsRow", "(Ljava/lang/String;I)V"⟩, 58) := ⟨⟨by decide +kernel, by decide +kernel⟩, List.mem_of_getElem? (i := 1259) (by decide +kernel), List.mem_of_getElem? (i := 1858) (by decide +kernel), List.mem_of_getElem? (i := 1859) (by decide +kernel)⟩
theorem lw_p88 : lw_okq (⟨"TurnQueuesModel", "tells", "(Ljava/lang/String;)V"⟩, 58) := ⟨⟨by decide +kernel, by decide +kernel⟩, List.mem_of_getElem? (i := 1259) (by decide +kernel), List.mem_of_getElem? (i := 1862) (by decide +kernel), List.mem_of_getElem? (i := 1863) (by decide +kernel)⟩
theorem lw_p89 : lw_okq (⟨"TurnQueuesModel", "tellsNumber", "(I)V"⟩, 58) := ⟨⟨by decide +kernel, by decide +kernel⟩, List.mem_of_getElem? (i := 1259) (by decide +kernel), List.mem_of_getElem? (i := 1867) (by decide +kernel), List.mem_of_getElem? (i := 1868) (by decide +kernel)⟩
theorem lw_p90 : lw_okq (⟨"TurnQueuesModel", "tellsState", "(I)V"⟩, 58) := ⟨⟨by decide +kernel, by decide +kernel⟩, List.mem_of_getElem? (i := 1259) (by decide +kernel), List.mem_of_getElem? (i := 1876) (by decide +kernel), List.mem_of_getElem? (i := 1877) (by decide +kernel)⟩
theorem lw_p91 : lw_okq (⟨"TurnQueuesModel", "walks", "(II)I"⟩, 58) := ⟨⟨by decide +kernel, by decide +kernel⟩, List.mem_of_getElem? (i := 1259) (by decide +kernel), List.mem_of_getElem? (i := 1896) (by decide +kernel), List.mem_of_getElem? (i := 1897) (by decide +kernel)⟩
theorem lw_p92 : lw_okq (⟨"TurnQueuesModel", "kindBy", "(I)I"⟩, 58) := ⟨⟨by decide +kernel, by decide +kernel⟩, List.mem_of_getElem? (i := 1259) (by decide +kernel), List.mem_of_getElem? (i := 1900) (by decide +kernel), List.mem_of_getElem? (i := 1901) (by decide +kernel)⟩
theorem lw_p93 : lw_okq (⟨"TurnQueuesModel", "isFull", "()Z"⟩, 58) := ⟨⟨by decide +kernel, by decide +kernel⟩, List.mem_of_getElem? (i := 1259) (by decide +kernel), List.mem_of_getElem? (i := 1909) (by decide +kernel), List.mem_of_getElem? (i := 1910) (by decide +kernel)⟩
theorem lw_p94 : lw_okq (⟨"TurnQueuesModel", "takesBack", "()V"⟩, 58) := ⟨⟨by decide +kernel, by decide +kernel⟩, List.mem_of_getElem? (i := 1259) (by decide +kernel), List.mem_of_getElem? (i := 1937) (by decide +kernel), List.mem_of_getElem? (i := 1938) (by decide +kernel)⟩
def lw_privs_6 : List (MethodName × Nat) := [(⟨"TurnQueuesModel", "goesAll", "(II)V"⟩, 58), (⟨"TurnQueuesModel", "goes", "(III)V"⟩, 58), (⟨"TurnQueuesModel", "areThree", "(III)Z"⟩, 58), (⟨"TurnQueuesModel", "laysWay", "(II)Z"⟩, 58), (⟨"TurnQueuesModel", "grafts", "(I)I"⟩, 58), (⟨"TurnQueuesModel", "putsIn", "(II)V"⟩, 58), (⟨"TurnQueuesModel", "takesOut", "(I)V"⟩, 58), (⟨"TurnQueuesModel", "tellsRow", "(Ljava/lang/String;I)V"⟩, 58), (⟨"TurnQueuesModel", "tells", "(Ljava/lang/String;)V"⟩, 58), (⟨"TurnQueuesModel", "tellsNumber", "(I)V"⟩, 58), (⟨"TurnQueuesModel", "tellsState", "(I)V"⟩, 58), (⟨"TurnQueuesModel", "walks", "(II)I"⟩, 58), (⟨"TurnQueuesModel", "kindBy", "(I)I"⟩, 58), (⟨"TurnQueuesModel", "isFull", "()Z"⟩, 58), (⟨"TurnQueuesModel", "takesBack", "()V"⟩, 58)]
theorem lw_r6 : ∀ q ∈ lw_privs_6, lw_okq q := List.forall_mem_cons.mpr ⟨lw_p80, List.forall_mem_cons.mpr ⟨lw_p81, List.forall_mem_cons.mpr ⟨lw_p82, List.forall_mem_cons.mpr ⟨lw_p83, List.forall_mem_cons.mpr ⟨lw_p84, List.forall_mem_cons.mpr ⟨lw_p85, List.forall_mem_cons.mpr ⟨lw_p86, List.forall_mem_cons.mpr ⟨lw_p87, List.forall_mem_cons.mpr ⟨lw_p88, List.forall_mem_cons.mpr ⟨lw_p89, List.forall_mem_cons.mpr ⟨lw_p90, List.forall_mem_cons.mpr ⟨lw_p91, List.forall_mem_cons.mpr ⟨lw_p92, List.forall_mem_cons.mpr ⟨lw_p93, List.forall_mem_cons.mpr ⟨lw_p94, fun _ h => absurd h List.not_mem_nil⟩⟩⟩⟩⟩⟩⟩⟩⟩⟩⟩⟩⟩⟩⟩
def lw_privs : List (MethodName × Nat) := lw_privs_1 ++ (lw_privs_2 ++ (lw_privs_3 ++ (lw_privs_4 ++ (lw_privs_5 ++ (lw_privs_6)))))
def lw_tbl : List Cond := k2_sels lw_privs ++ tables_1
theorem lw_privs_ok : ∀ q ∈ lw_privs, lw_okq q := by
  show ∀ q ∈ lw_privs_1 ++ (lw_privs_2 ++ (lw_privs_3 ++ (lw_privs_4 ++ (lw_privs_5 ++ (lw_privs_6))))), lw_okq q
  exact List.forall_mem_append.mpr ⟨lw_r1, List.forall_mem_append.mpr ⟨lw_r2, List.forall_mem_append.mpr ⟨lw_r3, List.forall_mem_append.mpr ⟨lw_r4, List.forall_mem_append.mpr ⟨lw_r5, lw_r6⟩⟩⟩⟩⟩
-- ===== end of PART A; then your names; then what follows =====
end
section
/-! THE PURE MACHINE: values, memory, one step. A value: int, long, a cell (kind, two numbers of the kind, address), other (0 null, 1 nothing, k + 2 the k-th text). -/
abbrev zz_V : Type := Int ⊕ Int ⊕ (Nat × Nat × Nat × Nat) ⊕ Nat
abbrev zI (i : Int) : zz_V := .inl i
abbrev zL (i : Int) : zz_V := .inr (.inl i)
abbrev zP (t p q a : Nat) : zz_V := .inr (.inr (.inl (t, p, q, a)))
abbrev zO (k : Nat) : zz_V := .inr (.inr (.inr k))
abbrev zN : zz_V := zO 0
abbrev zU : zz_V := zO 1
/-- the memory: int fields (field, address), arrays (address, place) -/
abbrev zz_M : Type := (Nat → Nat → Int) × (Nat → Nat → Int)
def zz_sf (σ : zz_M) (f a : Nat) (v : Int) : zz_M := (fun f' a' => if f' = f ∧ a' = a then v else σ.1 f' a', σ.2)
def zz_sa (σ : zz_M) (a i : Nat) (v : Int) : zz_M := (σ.1, fun a' i' => if a' = a ∧ i' = i then v else σ.2 a' i')
def zw (x : Int) : Int := (x + 2147483648) % 4294967296 - 2147483648
def zz_in (x : Int) : Prop := -2147483648 ≤ x ∧ x < 2147483648
def zz_inL (x : Int) : Prop := -9223372036854775808 ≤ x ∧ x < 9223372036854775808
def zz_b (f : Int32 → Int32 → Int32) (x y : Int) : Int := (f (Int32.ofInt x) (Int32.ofInt y)).toInt
def zz_l (f : Int64 → Int64 → Int64) (x y : Int) : Int := (f (Int64.ofInt x) (Int64.ofInt y)).toInt
def zz_div : Int → Int → Int := zz_b (fun x y => x / y)
def zz_rem : Int → Int → Int := zz_b (fun x y => x - x / y * y)
def zz_and : Int → Int → Int := zz_b (fun x y => x &&& y)
def zz_or : Int → Int → Int := zz_b (fun x y => x ||| y)
def zz_shr : Int → Int → Int := zz_b (fun x y => x >>> (y &&& 31))
def zz_ushr : Int → Int → Int := zz_b (fun x y => (x.toUInt32 >>> (y.toUInt32 &&& Int32.toUInt32 31)).toInt32)
def zz_i2b (x : Int) : Int := (Int32.ofInt x).toInt8.toInt32.toInt
def zz_i2z (x : Int) : Int := (vp_nar .boolean (Int32.ofInt x)).toInt
def zz_lsub : Int → Int → Int := zz_l (fun x y => x - y)
def zz_land : Int → Int → Int := zz_l (fun x y => x &&& y)
def zz_lshl (x y : Int) : Int := (Int64.ofInt x <<< ((Int32.ofInt y).toInt64 &&& 63)).toInt
def zz_lshr (x y : Int) : Int := (Int64.ofInt x >>> ((Int32.ofInt y).toInt64 &&& 63)).toInt
def zz_lushr (x y : Int) : Int := ((Int64.ofInt x).toUInt64 >>> ((Int32.ofInt y).toInt64.toUInt64 &&& Int64.toUInt64 63)).toInt64.toInt
def zz_lcmp (x y : Int) : Int := if x < y then -1 else if x = y then 0 else 1
/-- a row of code: its place, the instruction, its length, what it names -/
abbrev zz_C : Type := Nat × Instr × Nat × List Nat
/-- a method: number, name, bytes, words of locals, answer, code -/
abbrev zz_P : Type := Nat × MethodName × ByteArray × Nat × Option FieldType × List zz_C
abbrev zz_P.no (P : zz_P) : Nat := P.1
abbrev zz_P.y (P : zz_P) : MethodName := P.2.1
abbrev zz_P.bytes (P : zz_P) : ByteArray := P.2.2.1
abbrev zz_P.maxL (P : zz_P) : Nat := P.2.2.2.1
abbrev zz_P.ret (P : zz_P) : Option FieldType := P.2.2.2.2.1
abbrev zz_P.code (P : zz_P) : List zz_C := P.2.2.2.2.2
def zz_st (ls : List zz_V) (k : Nat) (v : zz_V) : Option (List zz_V) :=
  match decide (k < ls.length) with
  | false => none
  | true => match k with
    | 0 => some (ls.set 0 v)
    | k' + 1 => match ls[k']? with
      | some (.inr (.inl _)) => none
      | _ => some (ls.set (k' + 1) v)
def zz_ldI (ls : List zz_V) (st : List zz_V) (σ : zz_M) (k : Nat) : Option (List zz_V × List zz_V × zz_M) :=
  match ls[k]? with
  | some (.inl i) => some (ls, .inl i :: st, σ)
  | _ => none
def zz_ldL (ls : List zz_V) (st : List zz_V) (σ : zz_M) (k : Nat) : Option (List zz_V × List zz_V × zz_M) :=
  match ls[k]? with
  | some (.inr (.inl i)) => some (ls, .inr (.inl i) :: st, σ)
  | _ => none
def zz_ldA (ls : List zz_V) (st : List zz_V) (σ : zz_M) (k : Nat) : Option (List zz_V × List zz_V × zz_M) :=
  match ls[k]? with
  | some (.inr (.inr (.inl q))) => some (ls, .inr (.inr (.inl q)) :: st, σ)
  | some (.inr (.inr (.inr 0))) => some (ls, .inr (.inr (.inr 0)) :: st, σ)
  | some (.inr (.inr (.inr (k + 2)))) => some (ls, .inr (.inr (.inr (k + 2))) :: st, σ)
  | _ => none
def zz_stI (ls : List zz_V) (st : List zz_V) (σ : zz_M) (k : Nat) : Option (List zz_V × List zz_V × zz_M) :=
  match st with
  | .inl i :: r => match zz_st ls k (.inl i) with
    | some ls' => some (ls', r, σ)
    | none => none
  | _ => none
def zz_stA (ls : List zz_V) (st : List zz_V) (σ : zz_M) (k : Nat) : Option (List zz_V × List zz_V × zz_M) :=
  match st with
  | .inr (.inr (.inl q)) :: r => match zz_st ls k (.inr (.inr (.inl q))) with
    | some ls' => some (ls', r, σ)
    | none => none
  | .inr (.inr (.inr 0)) :: r => match zz_st ls k (.inr (.inr (.inr 0))) with
    | some ls' => some (ls', r, σ)
    | none => none
  | _ => none
/-- a field that holds a cell: its kind, two numbers, how far behind the object it lies -/
def zz_rf (f p q : Nat) : Option (Nat × Nat × Nat × Nat) := match f with
  | 1 => some (51, p, 0, 1)
  | 101 => some (50, p, 0, 1)
  | 102 => some (50, p, 0, 2)
  | 103 => some (50, p, 0, 3)
  | 104 => some (50, p, 0, 4)
  | 205 => some (50, 60, 0, 1)
  | 206 => some (50, 60, 0, 2)
  | 207 => some (50, 60, 0, 3)
  | 300 => some (2, 0, 0, 1)
  | 301 => some (4, 1890, 60, 5)
  | 302 => some (1, 1890, 0, 6)
  | 303 => some (53, 61, 1009, 12)
  | 304 => some (54, 61, 1609, 13)
  | 305 => some (50, 60, 0, 14)
  | 306 => some (52, 60, 0, 15)
  | 307 => some (50, 60, 0, 16)
  | 308 => some (50, 60, 0, 17)
  | 309 => some (0, 1200, 0, 18)
  | 310 => some (0, 1200, 0, 20)
  | 400 => some (1, p, 0, 1)
  | 403 => some (50, q, 0, 6)
  | 501 => some (50, p, 0, 1)
  | 600 => some (2, 0, 0, 1)
  | 603 => some (50, 41, 0, 5)
  | 804 => some (50, 6, 0, 1)
  | 805 => some (50, 6, 0, 2)
  | 806 => some (50, 6, 0, 3)
  | 807 => some (4, 0, 0, 4)
  | 808 => some (53, 7, 107, 11)
  | 900 => some (7, 0, 0, 1)
  | 901 => some (7, 0, 0, 2)
  | 902 => some (7, 0, 0, 3)
  | 903 => some (7, 0, 0, 4)
  | 904 => some (7, 0, 0, 5)
  | 905 => some (7, 0, 0, 6)
  | 1003 => some (5, 120, 0, 1)
  | 1004 => some (4, 0, 0, 3)
  | 1005 => some (9, 0, 0, 10)
  | 1006 => some (53, 61, 107, 17)
  | 1100 => some (0, 600, 0, 1)
  | 1101 => some (0, 1200, 0, 3)
  | 1102 => some (6, 0, 0, 5)
  | 1103 => some (3, 0, 0, 11)
  | 1104 => some (10, 0, 0, 582)
  | 1105 => some (8, 0, 0, 1027)
  | 1106 => some (55, 3, 104, 1088)
  | 1201 => some (50, 20000, 0, 1)
  | 1202 => some (50, 20000, 0, 2)
  | 1204 => some (50, 2184, 0, 3)
  | 1210 => some (50, 800, 0, 4)
  | 1216 => some (50, 61, 0, 5)
  | 1217 => some (50, 61, 0, 6)
  | 1218 => some (50, 61, 0, 7)
  | 1219 => some (50, 61, 0, 8)
  | 1220 => some (52, 61, 0, 9)
  | 1221 => some (50, 61, 0, 10)
  | 1222 => some (50, 3904, 0, 11)
  | 1223 => some (50, 61, 0, 12)
  | 1224 => some (51, 600, 0, 13)
  | 1226 => some (50, 5, 0, 14)
  | 1237 => some (50, 40, 0, 15)
  | 1238 => some (50, 40, 0, 16)
  | 1239 => some (50, 40, 0, 17)
  | 1240 => some (50, 41, 0, 18)
  | 1241 => some (50, 20000, 0, 19)
  | 1248 => some (50, 6, 0, 20)
  | 1249 => some (50, 6, 0, 21)
  | 1250 => some (50, 61, 0, 22)
  | 1252 => some (50, 800, 0, 23)
  | 1255 => some (51, 1400, 0, 24)
  | 1257 => some (50, 564, 0, 25)
  | _ => none
def zz_isZ (f : Nat) : Bool := match f with
  | 200 => true
  | 401 => true
  | 402 => true
  | 1208 => true
  | 1209 => true
  | _ => false
def zz_gf (f : Nat) (st : List zz_V) (σ : zz_M) : Option (List zz_V × zz_M) :=
  match st with
  | .inr (.inr (.inl (t, p, q, a))) :: r => match Nat.beq (f / 100) t with
    | true => match zz_rf f p q with
      | some (t', p', q', o) => some (.inr (.inr (.inl (t', p', q', a + o))) :: r, σ)
      | none => some (.inl (σ.1 f a) :: r, σ)
    | false => none
  | _ => none
def zz_pf (f : Nat) (st : List zz_V) (σ : zz_M) : Option (List zz_V × zz_M) :=
  match st with
  | .inl v :: .inr (.inr (.inl (t, p, q, a))) :: r => match Nat.beq (f / 100) t with
    | true => match zz_rf f p q with
      | some _ => none
      | none => match zz_isZ f with
        | true => none
        | false => some (r, zz_sf σ f a v)
    | false => none
  | _ => none
def zz_c1 : zz_V → Bool
  | .inr (.inl _) => false
  | .inr (.inr (.inr 1)) => false
  | _ => true
/-- one step that neither branches nor calls -/
def zz_step (ins : Instr) (ts : List Nat) (ls st : List zz_V) (σ : zz_M) : Option (List zz_V × List zz_V × zz_M) :=
  match ins with
  | .iload_n k => zz_ldI ls st σ k
  | .iload k => zz_ldI ls st σ k
  | .lload_n k => zz_ldL ls st σ k
  | .lload k => zz_ldL ls st σ k
  | .aload_n k => zz_ldA ls st σ k
  | .aload k => zz_ldA ls st σ k
  | .istore_n k => zz_stI ls st σ k
  | .istore k => zz_stI ls st σ k
  | .astore_n k => zz_stA ls st σ k
  | .astore k => zz_stA ls st σ k
  | .iconst n => some (ls, .inl n :: st, σ)
  | .bipush n => some (ls, .inl n :: st, σ)
  | .sipush n => some (ls, .inl n :: st, σ)
  | .lconst n => some (ls, .inr (.inl (n : Nat)) :: st, σ)
  | .aconst_null => some (ls, .inr (.inr (.inr 0)) :: st, σ)
  | .iadd => match st with
    | .inl y :: .inl x :: r => some (ls, .inl (zw (x + y)) :: r, σ)
    | _ => none
  | .isub => match st with
    | .inl y :: .inl x :: r => some (ls, .inl (zw (x - y)) :: r, σ)
    | _ => none
  | .imul => match st with
    | .inl y :: .inl x :: r => some (ls, .inl (zw (x * y)) :: r, σ)
    | _ => none
  | .iand => match st with
    | .inl y :: .inl x :: r => some (ls, .inl (zz_and x y) :: r, σ)
    | _ => none
  | .ior => match st with
    | .inl y :: .inl x :: r => some (ls, .inl (zz_or x y) :: r, σ)
    | _ => none
  | .ishr => match st with
    | .inl y :: .inl x :: r => some (ls, .inl (zz_shr x y) :: r, σ)
    | _ => none
  | .iushr => match st with
    | .inl y :: .inl x :: r => some (ls, .inl (zz_ushr x y) :: r, σ)
    | _ => none
  | .i2b => match st with
    | .inl x :: r => some (ls, .inl (zz_i2b x) :: r, σ)
    | _ => none
  | .i2l => match st with
    | .inl x :: r => some (ls, .inr (.inl x) :: r, σ)
    | _ => none
  | .lsub => match st with
    | .inr (.inl y) :: .inr (.inl x) :: r => some (ls, .inr (.inl (zz_lsub x y)) :: r, σ)
    | _ => none
  | .land => match st with
    | .inr (.inl y) :: .inr (.inl x) :: r => some (ls, .inr (.inl (zz_land x y)) :: r, σ)
    | _ => none
  | .lcmp => match st with
    | .inr (.inl y) :: .inr (.inl x) :: r => some (ls, .inl (zz_lcmp x y) :: r, σ)
    | _ => none
  | .lshl => match st with
    | .inl y :: .inr (.inl x) :: r => some (ls, .inr (.inl (zz_lshl x y)) :: r, σ)
    | _ => none
  | .lshr => match st with
    | .inl y :: .inr (.inl x) :: r => some (ls, .inr (.inl (zz_lshr x y)) :: r, σ)
    | _ => none
  | .lushr => match st with
    | .inl y :: .inr (.inl x) :: r => some (ls, .inr (.inl (zz_lushr x y)) :: r, σ)
    | _ => none
  | .iinc k n => match ls[k]? with
    | some (.inl x) => match zz_st ls k (.inl (zw (x + n))) with
      | some ls' => some (ls', st, σ)
      | none => none
    | _ => none
  | .dup => match st with
    | v :: r => match zz_c1 v with
      | true => some (ls, v :: v :: r, σ)
      | false => none
    | _ => none
  | .dup2 => match st with
    | v :: w :: r => match zz_c1 v, zz_c1 w with
      | true, true => some (ls, v :: w :: v :: w :: r, σ)
      | _, _ => none
    | _ => none
  | .pop => match st with
    | v :: r => match zz_c1 v with
      | true => some (ls, r, σ)
      | false => none
    | _ => none
  | .getfield _ => match ts with
    | f :: _ => match zz_gf f st σ with
      | some (st', σ') => some (ls, st', σ')
      | none => none
    | _ => none
  | .putfield _ => match ts with
    | f :: _ => match zz_pf f st σ with
      | some (st', σ') => some (ls, st', σ')
      | none => none
    | _ => none
  | .arraylength => match st with
    | .inr (.inr (.inl (t, p, _, _))) :: r => match Nat.ble 50 t with
      | true => some (ls, .inl (p : Nat) :: r, σ)
      | false => none
    | _ => none
  | .ldc _ => match ts with
    | 0 :: k :: _ => some (ls, .inr (.inr (.inr (k + 2))) :: st, σ)
    | 1 :: v :: _ => some (ls, .inl (v : Nat) :: st, σ)
    | _ => none
  | .ldc_w _ => match ts with
    | 0 :: k :: _ => some (ls, .inr (.inr (.inr (k + 2))) :: st, σ)
    | 1 :: v :: _ => some (ls, .inl (v : Nat) :: st, σ)
    | _ => none
  | .ldc2_w _ => match ts with
    | v :: _ => some (ls, .inr (.inl (v : Nat)) :: st, σ)
    | _ => none
  | _ => none
def zz_s1 (code : List zz_C) (j : Nat) (ls st : List zz_V) (σ : zz_M) : Option (Nat × List zz_V × List zz_V × zz_M) :=
  match code[j]? with
  | some e => match zz_step e.2.1 e.2.2.2 ls st σ with
    | some (ls', st', σ') => some (j + 1, ls', st', σ')
    | none => none
  | none => none
end
section
/-! the classes, their fields; printed by program -/
/-- the tables' words that last from call to call -/
def zz_tb : List Cond := lw_tbl.filter goodWord
theorem zz_mem_r {ws : List Cond} (ps : List Nat) (h : ws.map some = ps.map (fun i => lw_tbl[i]?)) (hg : ws.all goodWord = true) : ∀ w ∈ ws, w ∈ zz_tb := by
  intro w hw
  have h1 : some w ∈ ws.map some := List.mem_map.mpr ⟨w, hw, rfl⟩
  rw [h] at h1
  obtain ⟨i, -, hi⟩ := List.mem_map.mp h1
  exact List.mem_filter.mpr ⟨List.mem_of_getElem? hi, List.all_eq_true.mp hg w hw⟩
def zz_R0 : String := "TurnQueues$Bytes"
def zz_T0 : u_T := fun k => match k with
  | 0 => ("TurnQueues$Bytes", "length", "I", false)
  | _ => ("TurnQueues$Bytes", "values", "[B", true)
def zz_t0 : Nat → FieldType := fun k => match k with
  | 0 => .int
  | _ => .array .byte
theorem zz_nm0 : ∀ a, a < 2 → ∀ b, b < 2 → a ≠ b → (zz_T0 a).2.1 ≠ (zz_T0 b).2.1 := by decide +kernel
theorem zz_to0 : ∀ k, k < 2 → parseFieldDescriptor (zz_T0 k).2.2.1 = some (zz_t0 k) := by decide +kernel
def zz_R1 : String := "TurnQueues$Cells"
def zz_T1 : u_T := fun k => match k with
  | 0 => ("TurnQueues$Cells", "made", "I", false)
  | 1 => ("TurnQueues$Cells", "numbers", "[I", true)
  | 2 => ("TurnQueues$Cells", "nexts", "[I", true)
  | 3 => ("TurnQueues$Cells", "makers", "[I", true)
  | 4 => ("TurnQueues$Cells", "marks", "[I", true)
  | _ => ("TurnQueues$Cells", "mark", "I", false)
def zz_t1 : Nat → FieldType := fun k => match k with
  | 0 => .int
  | 1 => .array .int
  | 2 => .array .int
  | 3 => .array .int
  | 4 => .array .int
  | _ => .int
theorem zz_nm1 : ∀ a, a < 6 → ∀ b, b < 6 → a ≠ b → (zz_T1 a).2.1 ≠ (zz_T1 b).2.1 := by decide +kernel
theorem zz_to1 : ∀ k, k < 6 → parseFieldDescriptor (zz_T1 k).2.2.1 = some (zz_t1 k) := by decide +kernel
def zz_R2 : String := "TurnQueues$Deeds"
def zz_T2 : u_T := fun k => match k with
  | 0 => ("TurnQueues$Deeds", "housed", "Z", false)
  | 1 => ("TurnQueues$Deeds", "law", "I", false)
  | 2 => ("TurnQueues$Deeds", "ratio", "I", false)
  | 3 => ("TurnQueues$Deeds", "told", "I", false)
  | 4 => ("TurnQueues$Deeds", "many", "I", false)
  | 5 => ("TurnQueues$Deeds", "kinds", "[I", true)
  | 6 => ("TurnQueues$Deeds", "bases", "[I", true)
  | _ => ("TurnQueues$Deeds", "numbers", "[I", true)
def zz_t2 : Nat → FieldType := fun k => match k with
  | 0 => .boolean
  | 1 => .int
  | 2 => .int
  | 3 => .int
  | 4 => .int
  | 5 => .array .int
  | 6 => .array .int
  | _ => .array .int
theorem zz_nm2 : ∀ a, a < 8 → ∀ b, b < 8 → a ≠ b → (zz_T2 a).2.1 ≠ (zz_T2 b).2.1 := by decide +kernel
theorem zz_to2 : ∀ k, k < 8 → parseFieldDescriptor (zz_T2 k).2.2.1 = some (zz_t2 k) := by decide +kernel
def zz_R3 : String := "TurnQueues$History"
def zz_T3 : u_T := fun k => match k with
  | 0 => ("TurnQueues$History", "deeds", "LTurnQueues$Deeds;", true)
  | 1 => ("TurnQueues$History", "mill", "LTurnQueues$Mill;", true)
  | 2 => ("TurnQueues$History", "cells", "LTurnQueues$Cells;", true)
  | 3 => ("TurnQueues$History", "states", "[LTurnQueues$State;", true)
  | 4 => ("TurnQueues$History", "queues", "[LTurnQueues$Numbers;", true)
  | 5 => ("TurnQueues$History", "spent", "[I", true)
  | 6 => ("TurnQueues$History", "late", "[Z", true)
  | 7 => ("TurnQueues$History", "cellsBefore", "[I", true)
  | 8 => ("TurnQueues$History", "way", "[I", true)
  | 9 => ("TurnQueues$History", "told", "LTurnQueues$Bytes;", true)
  | _ => ("TurnQueues$History", "otherTold", "LTurnQueues$Bytes;", true)
def zz_t3 : Nat → FieldType := fun k => match k with
  | 0 => .object "TurnQueues$Deeds"
  | 1 => .object "TurnQueues$Mill"
  | 2 => .object "TurnQueues$Cells"
  | 3 => .array (.object "TurnQueues$State")
  | 4 => .array (.object "TurnQueues$Numbers")
  | 5 => .array .int
  | 6 => .array .boolean
  | 7 => .array .int
  | 8 => .array .int
  | 9 => .object "TurnQueues$Bytes"
  | _ => .object "TurnQueues$Bytes"
theorem zz_nm3 : ∀ a, a < 11 → ∀ b, b < 11 → a ≠ b → (zz_T3 a).2.1 ≠ (zz_T3 b).2.1 := by decide +kernel
theorem zz_to3 : ∀ k, k < 11 → parseFieldDescriptor (zz_T3 k).2.2.1 = some (zz_t3 k) := by decide +kernel
def zz_R4 : String := "TurnQueues$Mill"
def zz_T4 : u_T := fun k => match k with
  | 0 => ("TurnQueues$Mill", "cells", "LTurnQueues$Cells;", true)
  | 1 => ("TurnQueues$Mill", "turned", "Z", false)
  | 2 => ("TurnQueues$Mill", "wasOverdue", "Z", false)
  | 3 => ("TurnQueues$Mill", "laid", "[I", true)
  | 4 => ("TurnQueues$Mill", "law", "I", false)
  | 5 => ("TurnQueues$Mill", "ratio", "I", false)
  | 6 => ("TurnQueues$Mill", "maker", "I", false)
  | _ => ("TurnQueues$Mill", "steps", "I", false)
def zz_t4 : Nat → FieldType := fun k => match k with
  | 0 => .object "TurnQueues$Cells"
  | 1 => .boolean
  | 2 => .boolean
  | 3 => .array .int
  | 4 => .int
  | 5 => .int
  | 6 => .int
  | _ => .int
theorem zz_nm4 : ∀ a, a < 8 → ∀ b, b < 8 → a ≠ b → (zz_T4 a).2.1 ≠ (zz_T4 b).2.1 := by decide +kernel
theorem zz_to4 : ∀ k, k < 8 → parseFieldDescriptor (zz_T4 k).2.2.1 = some (zz_t4 k) := by decide +kernel
def zz_R5 : String := "TurnQueues$Numbers"
def zz_T5 : u_T := fun k => match k with
  | 0 => ("TurnQueues$Numbers", "many", "I", false)
  | _ => ("TurnQueues$Numbers", "values", "[I", true)
def zz_t5 : Nat → FieldType := fun k => match k with
  | 0 => .int
  | _ => .array .int
theorem zz_nm5 : ∀ a, a < 2 → ∀ b, b < 2 → a ≠ b → (zz_T5 a).2.1 ≠ (zz_T5 b).2.1 := by decide +kernel
theorem zz_to5 : ∀ k, k < 2 → parseFieldDescriptor (zz_T5 k).2.2.1 = some (zz_t5 k) := by decide +kernel
def zz_R6 : String := "TurnQueues$Reader"
def zz_T6 : u_T := fun k => match k with
  | 0 => ("TurnQueues$Reader", "draft", "LTurnQueues$Deeds;", true)
  | 1 => ("TurnQueues$Reader", "fault", "I", false)
  | 2 => ("TurnQueues$Reader", "faultPlace", "I", false)
  | 3 => ("TurnQueues$Reader", "sizes", "[I", true)
  | 4 => ("TurnQueues$Reader", "token", "I", false)
  | 5 => ("TurnQueues$Reader", "start", "I", false)
  | 6 => ("TurnQueues$Reader", "next", "I", false)
  | _ => ("TurnQueues$Reader", "value", "I", false)
def zz_t6 : Nat → FieldType := fun k => match k with
  | 0 => .object "TurnQueues$Deeds"
  | 1 => .int
  | 2 => .int
  | 3 => .array .int
  | 4 => .int
  | 5 => .int
  | 6 => .int
  | _ => .int
theorem zz_nm6 : ∀ a, a < 8 → ∀ b, b < 8 → a ≠ b → (zz_T6 a).2.1 ≠ (zz_T6 b).2.1 := by decide +kernel
theorem zz_to6 : ∀ k, k < 8 → parseFieldDescriptor (zz_T6 k).2.2.1 = some (zz_t6 k) := by decide +kernel
def zz_R7 : String := "TurnQueues$Row"
def zz_T7 : u_T := fun k => match k with
  | 0 => ("TurnQueues$Row", "head", "I", false)
  | _ => ("TurnQueues$Row", "length", "I", false)
def zz_t7 : Nat → FieldType := fun k => match k with
  | 0 => .int
  | _ => .int
theorem zz_nm7 : ∀ a, a < 2 → ∀ b, b < 2 → a ≠ b → (zz_T7 a).2.1 ≠ (zz_T7 b).2.1 := by decide +kernel
theorem zz_to7 : ∀ k, k < 2 → parseFieldDescriptor (zz_T7 k).2.2.1 = some (zz_t7 k) := by decide +kernel
def zz_R8 : String := "TurnQueues$Scout"
def zz_T8 : u_T := fun k => match k with
  | 0 => ("TurnQueues$Scout", "most", "I", false)
  | 1 => ("TurnQueues$Scout", "mostTogether", "I", false)
  | 2 => ("TurnQueues$Scout", "tries", "I", false)
  | 3 => ("TurnQueues$Scout", "longest", "I", false)
  | 4 => ("TurnQueues$Scout", "tried", "[I", true)
  | 5 => ("TurnQueues$Scout", "worst", "[I", true)
  | 6 => ("TurnQueues$Scout", "mostAtLevel", "[I", true)
  | 7 => ("TurnQueues$Scout", "mill", "LTurnQueues$Mill;", true)
  | _ => ("TurnQueues$Scout", "levels", "[LTurnQueues$State;", true)
def zz_t8 : Nat → FieldType := fun k => match k with
  | 0 => .int
  | 1 => .int
  | 2 => .int
  | 3 => .int
  | 4 => .array .int
  | 5 => .array .int
  | 6 => .array .int
  | 7 => .object "TurnQueues$Mill"
  | _ => .array (.object "TurnQueues$State")
theorem zz_nm8 : ∀ a, a < 9 → ∀ b, b < 9 → a ≠ b → (zz_T8 a).2.1 ≠ (zz_T8 b).2.1 := by decide +kernel
theorem zz_to8 : ∀ k, k < 9 → parseFieldDescriptor (zz_T8 k).2.2.1 = some (zz_t8 k) := by decide +kernel
def zz_R9 : String := "TurnQueues$State"
def zz_T9 : u_T := fun k => match k with
  | 0 => ("TurnQueues$State", "front", "LTurnQueues$Row;", true)
  | 1 => ("TurnQueues$State", "back", "LTurnQueues$Row;", true)
  | 2 => ("TurnQueues$State", "a", "LTurnQueues$Row;", true)
  | 3 => ("TurnQueues$State", "c", "LTurnQueues$Row;", true)
  | 4 => ("TurnQueues$State", "d", "LTurnQueues$Row;", true)
  | 5 => ("TurnQueues$State", "e", "LTurnQueues$Row;", true)
  | 6 => ("TurnQueues$State", "total", "I", false)
  | 7 => ("TurnQueues$State", "count", "I", false)
  | 8 => ("TurnQueues$State", "mode", "I", false)
  | 9 => ("TurnQueues$State", "good", "I", false)
  | 10 => ("TurnQueues$State", "frontOwes", "I", false)
  | _ => ("TurnQueues$State", "backOwes", "I", false)
def zz_t9 : Nat → FieldType := fun k => match k with
  | 0 => .object "TurnQueues$Row"
  | 1 => .object "TurnQueues$Row"
  | 2 => .object "TurnQueues$Row"
  | 3 => .object "TurnQueues$Row"
  | 4 => .object "TurnQueues$Row"
  | 5 => .object "TurnQueues$Row"
  | 6 => .int
  | 7 => .int
  | 8 => .int
  | 9 => .int
  | 10 => .int
  | _ => .int
theorem zz_nm9 : ∀ a, a < 12 → ∀ b, b < 12 → a ≠ b → (zz_T9 a).2.1 ≠ (zz_T9 b).2.1 := by decide +kernel
theorem zz_to9 : ∀ k, k < 12 → parseFieldDescriptor (zz_T9 k).2.2.1 = some (zz_t9 k) := by decide +kernel
def zz_R10 : String := "TurnQueues$Trial"
def zz_T10 : u_T := fun k => match k with
  | 0 => ("TurnQueues$Trial", "most", "I", false)
  | 1 => ("TurnQueues$Trial", "steps", "I", false)
  | 2 => ("TurnQueues$Trial", "clash", "I", false)
  | 3 => ("TurnQueues$Trial", "queue", "LTurnQueues$Numbers;", true)
  | 4 => ("TurnQueues$Trial", "mill", "LTurnQueues$Mill;", true)
  | 5 => ("TurnQueues$Trial", "now", "LTurnQueues$State;", true)
  | _ => ("TurnQueues$Trial", "tree", "[LTurnQueues$State;", true)
def zz_t10 : Nat → FieldType := fun k => match k with
  | 0 => .int
  | 1 => .int
  | 2 => .int
  | 3 => .object "TurnQueues$Numbers"
  | 4 => .object "TurnQueues$Mill"
  | 5 => .object "TurnQueues$State"
  | _ => .array (.object "TurnQueues$State")
theorem zz_nm10 : ∀ a, a < 7 → ∀ b, b < 7 → a ≠ b → (zz_T10 a).2.1 ≠ (zz_T10 b).2.1 := by decide +kernel
theorem zz_to10 : ∀ k, k < 7 → parseFieldDescriptor (zz_T10 k).2.2.1 = some (zz_t10 k) := by decide +kernel
def zz_R11 : String := "TurnQueues"
def zz_T11 : u_T := fun k => match k with
  | 0 => ("TurnQueues", "tape", "LTurnQueues$Bytes;", true)
  | 1 => ("TurnQueues", "out", "LTurnQueues$Bytes;", true)
  | 2 => ("TurnQueues", "reader", "LTurnQueues$Reader;", true)
  | 3 => ("TurnQueues", "history", "LTurnQueues$History;", true)
  | 4 => ("TurnQueues", "trial", "LTurnQueues$Trial;", true)
  | 5 => ("TurnQueues", "scout", "LTurnQueues$Scout;", true)
  | _ => ("TurnQueues", "images", "[LTurnQueues$Deeds;", true)
def zz_t11 : Nat → FieldType := fun k => match k with
  | 0 => .object "TurnQueues$Bytes"
  | 1 => .object "TurnQueues$Bytes"
  | 2 => .object "TurnQueues$Reader"
  | 3 => .object "TurnQueues$History"
  | 4 => .object "TurnQueues$Trial"
  | 5 => .object "TurnQueues$Scout"
  | _ => .array (.object "TurnQueues$Deeds")
theorem zz_nm11 : ∀ a, a < 7 → ∀ b, b < 7 → a ≠ b → (zz_T11 a).2.1 ≠ (zz_T11 b).2.1 := by decide +kernel
theorem zz_to11 : ∀ k, k < 7 → parseFieldDescriptor (zz_T11 k).2.2.1 = some (zz_t11 k) := by decide +kernel
def zz_R12 : String := "TurnQueuesModel"
def zz_T12 : u_T := fun k => match k with
  | 0 => ("TurnQueuesModel", "thrown", "I", false)
  | 1 => ("TurnQueuesModel", "numberOf", "[I", true)
  | 2 => ("TurnQueuesModel", "nextOf", "[I", true)
  | 3 => ("TurnQueuesModel", "cells", "I", false)
  | 4 => ("TurnQueuesModel", "stands", "[I", true)
  | 5 => ("TurnQueuesModel", "law", "I", false)
  | 6 => ("TurnQueuesModel", "balance", "I", false)
  | 7 => ("TurnQueuesModel", "steps", "I", false)
  | 8 => ("TurnQueuesModel", "hasBegun", "Z", false)
  | 9 => ("TurnQueuesModel", "isOverdue", "Z", false)
  | 10 => ("TurnQueuesModel", "line", "[I", true)
  | 11 => ("TurnQueuesModel", "houseLaw", "I", false)
  | 12 => ("TurnQueuesModel", "houseBalance", "I", false)
  | 13 => ("TurnQueuesModel", "texts", "I", false)
  | 14 => ("TurnQueuesModel", "toldMany", "I", false)
  | 15 => ("TurnQueuesModel", "versions", "I", false)
  | 16 => ("TurnQueuesModel", "madeOf", "[I", true)
  | 17 => ("TurnQueuesModel", "kindOf", "[I", true)
  | 18 => ("TurnQueuesModel", "numberBy", "[I", true)
  | 19 => ("TurnQueuesModel", "spentBy", "[I", true)
  | 20 => ("TurnQueuesModel", "wasOverdue", "[Z", true)
  | 21 => ("TurnQueuesModel", "cellsAhead", "[I", true)
  | 22 => ("TurnQueuesModel", "queue", "[I", true)
  | 23 => ("TurnQueuesModel", "size0", "[I", true)
  | 24 => ("TurnQueuesModel", "tape", "[B", true)
  | 25 => ("TurnQueuesModel", "taped", "I", false)
  | 26 => ("TurnQueuesModel", "five", "[I", true)
  | 27 => ("TurnQueuesModel", "size", "I", false)
  | 28 => ("TurnQueuesModel", "at", "I", false)
  | 29 => ("TurnQueuesModel", "from", "I", false)
  | 30 => ("TurnQueuesModel", "token", "I", false)
  | 31 => ("TurnQueuesModel", "value", "I", false)
  | 32 => ("TurnQueuesModel", "faultKind", "I", false)
  | 33 => ("TurnQueuesModel", "faultPlace", "I", false)
  | 34 => ("TurnQueuesModel", "freshLaw", "I", false)
  | 35 => ("TurnQueuesModel", "freshBalance", "I", false)
  | 36 => ("TurnQueuesModel", "freshMany", "I", false)
  | 37 => ("TurnQueuesModel", "freshOf", "[I", true)
  | 38 => ("TurnQueuesModel", "freshKind", "[I", true)
  | 39 => ("TurnQueuesModel", "freshNumber", "[I", true)
  | 40 => ("TurnQueuesModel", "freshSize", "[I", true)
  | 41 => ("TurnQueuesModel", "met", "[I", true)
  | 42 => ("TurnQueuesModel", "most", "I", false)
  | 43 => ("TurnQueuesModel", "mostOne", "I", false)
  | 44 => ("TurnQueuesModel", "mostAll", "I", false)
  | 45 => ("TurnQueuesModel", "rows", "I", false)
  | 46 => ("TurnQueuesModel", "mostLast", "I", false)
  | 47 => ("TurnQueuesModel", "all", "I", false)
  | 48 => ("TurnQueuesModel", "tried", "[I", true)
  | 49 => ("TurnQueuesModel", "worstRow", "[I", true)
  | 50 => ("TurnQueuesModel", "wayOf", "[I", true)
  | 51 => ("TurnQueuesModel", "wayMany", "I", false)
  | 52 => ("TurnQueuesModel", "numbers", "[I", true)
  | 53 => ("TurnQueuesModel", "numberMany", "I", false)
  | 54 => ("TurnQueuesModel", "clash", "I", false)
  | 55 => ("TurnQueuesModel", "out", "[B", true)
  | 56 => ("TurnQueuesModel", "outMany", "I", false)
  | _ => ("TurnQueuesModel", "images", "[I", true)
def zz_t12 : Nat → FieldType := fun k => match k with
  | 0 => .int
  | 1 => .array .int
  | 2 => .array .int
  | 3 => .int
  | 4 => .array .int
  | 5 => .int
  | 6 => .int
  | 7 => .int
  | 8 => .boolean
  | 9 => .boolean
  | 10 => .array .int
  | 11 => .int
  | 12 => .int
  | 13 => .int
  | 14 => .int
  | 15 => .int
  | 16 => .array .int
  | 17 => .array .int
  | 18 => .array .int
  | 19 => .array .int
  | 20 => .array .boolean
  | 21 => .array .int
  | 22 => .array .int
  | 23 => .array .int
  | 24 => .array .byte
  | 25 => .int
  | 26 => .array .int
  | 27 => .int
  | 28 => .int
  | 29 => .int
  | 30 => .int
  | 31 => .int
  | 32 => .int
  | 33 => .int
  | 34 => .int
  | 35 => .int
  | 36 => .int
  | 37 => .array .int
  | 38 => .array .int
  | 39 => .array .int
  | 40 => .array .int
  | 41 => .array .int
  | 42 => .int
  | 43 => .int
  | 44 => .int
  | 45 => .int
  | 46 => .int
  | 47 => .int
  | 48 => .array .int
  | 49 => .array .int
  | 50 => .array .int
  | 51 => .int
  | 52 => .array .int
  | 53 => .int
  | 54 => .int
  | 55 => .array .byte
  | 56 => .int
  | _ => .array .int
theorem zz_nm12 : ∀ a, a < 58 → ∀ b, b < 58 → a ≠ b → (zz_T12 a).2.1 ≠ (zz_T12 b).2.1 := by decide +kernel
theorem zz_to12 : ∀ k, k < 58 → parseFieldDescriptor (zz_T12 k).2.2.1 = some (zz_t12 k) := by decide +kernel
set_option maxRecDepth 200000 in
theorem zz_in0 : ∀ w ∈ u_ws zz_R0 zz_T0 2, w ∈ zz_tb := zz_mem_r [137, 139] rfl (by decide +kernel)
set_option maxRecDepth 200000 in
theorem zz_in1 : ∀ w ∈ u_ws zz_R1 zz_T1 6, w ∈ zz_tb := zz_mem_r [264, 266, 268, 270, 272, 274] rfl (by decide +kernel)
set_option maxRecDepth 200000 in
theorem zz_in2 : ∀ w ∈ u_ws zz_R2 zz_T2 8, w ∈ zz_tb := zz_mem_r [189, 191, 193, 195, 197, 199, 201, 203] rfl (by decide +kernel)
set_option maxRecDepth 200000 in
theorem zz_in3 : ∀ w ∈ u_ws zz_R3 zz_T3 11, w ∈ zz_tb := zz_mem_r [440, 442, 444, 446, 448, 450, 452, 454, 456, 458, 460] rfl (by decide +kernel)
set_option maxRecDepth 200000 in
theorem zz_in4 : ∀ w ∈ u_ws zz_R4 zz_T4 8, w ∈ zz_tb := zz_mem_r [289, 291, 293, 295, 297, 299, 301, 303] rfl (by decide +kernel)
set_option maxRecDepth 200000 in
theorem zz_in5 : ∀ w ∈ u_ws zz_R5 zz_T5 2, w ∈ zz_tb := zz_mem_r [421, 423] rfl (by decide +kernel)
set_option maxRecDepth 200000 in
theorem zz_in6 : ∀ w ∈ u_ws zz_R6 zz_T6 8, w ∈ zz_tb := zz_mem_r [218, 220, 222, 224, 226, 228, 230, 232] rfl (by decide +kernel)
set_option maxRecDepth 200000 in
theorem zz_in7 : ∀ w ∈ u_ws zz_R7 zz_T7 2, w ∈ zz_tb := zz_mem_r [332, 334] rfl (by decide +kernel)
set_option maxRecDepth 200000 in
theorem zz_in8 : ∀ w ∈ u_ws zz_R8 zz_T8 9, w ∈ zz_tb := zz_mem_r [523, 525, 527, 529, 531, 533, 535, 537, 539] rfl (by decide +kernel)
set_option maxRecDepth 200000 in
theorem zz_in9 : ∀ w ∈ u_ws zz_R9 zz_T9 12, w ∈ zz_tb := zz_mem_r [386, 388, 390, 392, 394, 396, 398, 400, 402, 404, 406, 408] rfl (by decide +kernel)
set_option maxRecDepth 200000 in
theorem zz_in10 : ∀ w ∈ u_ws zz_R10 zz_T10 7, w ∈ zz_tb := zz_mem_r [486, 488, 490, 492, 494, 496, 498] rfl (by decide +kernel)
set_option maxRecDepth 200000 in
theorem zz_in11 : ∀ w ∈ u_ws zz_R11 zz_T11 7, w ∈ zz_tb := zz_mem_r [552, 554, 556, 558, 560, 562, 564] rfl (by decide +kernel)
set_option maxRecDepth 200000 in
theorem zz_in12 : ∀ w ∈ u_ws zz_R12 zz_T12 58, w ∈ zz_tb := zz_mem_r [1416, 1418, 1420, 1422, 1424, 1426, 1428, 1430, 1432, 1434, 1436, 1438, 1440, 1442, 1444, 1446, 1448, 1450, 1452, 1454, 1456, 1458, 1460, 1462, 1464, 1466, 1468, 1470, 1472, 1474, 1476, 1478, 1480, 1482, 1484, 1486, 1488, 1490, 1492, 1494, 1496, 1498, 1500, 1502, 1504, 1506, 1508, 1510, 1512, 1514, 1516, 1518, 1520, 1522, 1524, 1526, 1528, 1530] rfl (by decide +kernel)
/-! THE PURE MACHINE AND THE REAL ONE: how the memory lies in the heap. -/
def zz_k0 : List (Nat × Nat × Nat) := [(11, 0, 0), (0, 600, 0), (51, 600, 0), (0, 1200, 0), (51, 1200, 0), (6, 0, 0), (2, 0, 0), (50, 60, 0), (50, 60, 0), (50, 60, 0), (50, 41, 0)]
def zz_k3 : List (Nat × Nat × Nat) := [(3, 0, 0), (2, 0, 0), (50, 60, 0), (50, 60, 0), (50, 60, 0), (4, 1890, 60), (1, 1890, 0), (50, 1890, 0), (50, 1890, 0), (50, 1890, 0), (50, 1890, 0), (50, 60, 0), (53, 61, 1009), (54, 61, 1609), (50, 60, 0), (52, 60, 0), (50, 60, 0), (50, 60, 0), (0, 1200, 0), (51, 1200, 0), (0, 1200, 0), (51, 1200, 0)]
def zz_k10 : List (Nat × Nat × Nat) := [(10, 0, 0), (5, 120, 0), (50, 120, 0), (4, 0, 0), (1, 0, 0), (50, 0, 0), (50, 0, 0), (50, 0, 0), (50, 0, 0), (50, 0, 0), (9, 0, 0), (7, 0, 0), (7, 0, 0), (7, 0, 0), (7, 0, 0), (7, 0, 0), (7, 0, 0), (53, 61, 107)]
def zz_k8 : List (Nat × Nat × Nat) := [(8, 0, 0), (50, 6, 0), (50, 6, 0), (50, 6, 0), (4, 0, 0), (1, 0, 0), (50, 0, 0), (50, 0, 0), (50, 0, 0), (50, 0, 0), (50, 0, 0), (53, 7, 107)]
def zz_k12 : List (Nat × Nat × Nat) := [(12, 0, 0), (50, 20000, 0), (50, 20000, 0), (50, 2184, 0), (50, 800, 0), (50, 61, 0), (50, 61, 0), (50, 61, 0), (50, 61, 0), (52, 61, 0), (50, 61, 0), (50, 3904, 0), (50, 61, 0), (51, 600, 0), (50, 5, 0), (50, 40, 0), (50, 40, 0), (50, 40, 0), (50, 41, 0), (50, 20000, 0), (50, 6, 0), (50, 6, 0), (50, 61, 0), (50, 800, 0), (51, 1400, 0), (50, 564, 0)]
/-- the kind of the i-th own cell -/
def zz_K (i : Nat) : Nat × Nat × Nat :=
  if i < 11 then zz_k0.getD i (99, 0, 0)
  else if i < 582 then (if i < 33 then zz_k3.getD (i - 11) (99, 0, 0) else if (i - 33) % 9 = 0 then (9, 0, 0) else if (i - 33) % 9 < 7 then (7, 0, 0) else if (i - 33) % 9 = 7 then (5, 60, 0) else (50, 60, 0))
  else if i < 1027 then (if i < 600 then zz_k10.getD (i - 582) (99, 0, 0) else if (i - 600) % 7 = 0 then (9, 0, 0) else (7, 0, 0))
  else if i < 1088 then (if i < 1039 then zz_k8.getD (i - 1027) (99, 0, 0) else if (i - 1039) % 7 = 0 then (9, 0, 0) else (7, 0, 0))
  else if i < 1089 then (55, 3, 104)
  else if i < 1101 then (if (i - 1089) % 4 = 0 then (2, 0, 0) else (50, 60, 0))
  else zz_k12.getD (i - 1101) (99, 0, 0)
abbrev zz_n : Nat := 1127
/-- what stays the same in a run: launch, first own cell, numbers of classes and slots, array classes, texts -/
abbrev zz_X : Type := Launch × Nat × va_G × (Nat → ClassId) × (Nat → Nat) × (Nat → Nat)
abbrev zz_X.l (X : zz_X) : Launch := X.1
abbrev zz_X.b (X : zz_X) : Nat := X.2.1
abbrev zz_X.D (X : zz_X) : va_G := X.2.2.1
abbrev zz_X.dA (X : zz_X) : Nat → ClassId := X.2.2.2.1
abbrev zz_X.sa (X : zz_X) : Nat → Nat := X.2.2.2.2.1
abbrev zz_X.sv (X : zz_X) : Nat → Nat := X.2.2.2.2.2
abbrev zz_cl : List vw_C := [(zz_R0, zz_T0, 2), (zz_R1, zz_T1, 6), (zz_R2, zz_T2, 8), (zz_R3, zz_T3, 11), (zz_R4, zz_T4, 8), (zz_R5, zz_T5, 2), (zz_R6, zz_T6, 8), (zz_R7, zz_T7, 2), (zz_R8, zz_T8, 9), (zz_R9, zz_T9, 12), (zz_R10, zz_T10, 7), (zz_R11, zz_T11, 7), (zz_R12, zz_T12, 58)]
def zz_tys (X : zz_X) : List (ClassId × FieldType) := [(X.dA 0, .int), (X.dA 1, .byte), (X.dA 2, .boolean), (X.dA 3, .object "TurnQueues$State"), (X.dA 4, .object "TurnQueues$Numbers"), (X.dA 5, .object "TurnQueues$Deeds")]
/-- the region of the own cells -/
def zz_A (X : zz_X) : Nat → Prop := fun q => X.b ≤ q
def zz_nf : Nat → Nat := fun t => match t with
  | 0 => 2
  | 1 => 6
  | 2 => 8
  | 3 => 11
  | 4 => 8
  | 5 => 2
  | 6 => 8
  | 7 => 2
  | 8 => 9
  | 9 => 12
  | 10 => 7
  | 11 => 7
  | 12 => 58
  | _ => 0
def zz_fs (t p q : Nat) (σ : zz_M) (a : Nat) : List Value := (List.range (zz_nf t)).map (fun k => match zz_rf (100 * t + k) p q with
  | some r => .ref (a + r.2.2.2)
  | none => .int (Int32.ofInt (σ.1 (100 * t + k) a)))
def zz_ce (X : zz_X) (σ : zz_M) (a : Nat) (K : Nat × Nat × Nat) : va_E :=
  if K.1 < 50 then .inr (K.1, zz_fs K.1 K.2.1 K.2.2 σ a)
  else if K.1 < 53 then .inl (X.dA (K.1 - 50), K.2.1, .inl (fun i => Int32.ofInt (σ.2 a i)))
  else .inl (X.dA (K.1 - 50), K.2.1, .inr (.inr (.inr (.inr (fun i => some (a + K.2.2 / 100 + K.2.2 % 100 * i))))))
def zz_ws (X : zz_X) (σ : zz_M) : va_W := (List.range zz_n).map (fun i => (X.b + i, zz_ce X σ (X.b + i) (zz_K i)))
/-- the texts -/
def zz_nS : Nat := 37
def zz_tx (i : Nat) : List Nat := match i with
  | 0 => [104, 111, 117, 115, 101]
  | 1 => [108, 97, 119]
  | 2 => [98, 97, 108, 97, 110, 99, 101]
  | 3 => [112, 117, 116]
  | 4 => [116, 97, 107, 101]
  | 5 => [102, 111, 114, 101]
  | 6 => [108, 97, 115, 116]
  | 7 => [102]
  | 8 => [124, 98]
  | 9 => [124, 116, 117, 114, 110, 105, 110, 103, 32]
  | 10 => [124, 97]
  | 11 => [124, 99]
  | 12 => [124, 100]
  | 13 => [124, 101]
  | 14 => [124, 106, 111, 105, 110, 105, 110, 103, 32]
  | 15 => [124, 105, 100, 108, 101]
  | 16 => [124, 111, 119, 101, 115, 32]
  | 17 => [32]
  | 18 => [104, 111, 117, 115, 101]
  | 19 => [108, 97, 119]
  | 20 => [98, 97, 108, 97, 110, 99, 101]
  | 21 => [112, 117, 116]
  | 22 => [116, 97, 107, 101]
  | 23 => [102, 111, 114, 101]
  | 24 => [108, 97, 115, 116]
  | 25 => [102]
  | 26 => [32]
  | 27 => [45]
  | 28 => [124, 98]
  | 29 => [124, 105, 100, 108, 101]
  | 30 => [124, 116, 117, 114, 110, 105, 110, 103, 32]
  | 31 => [124, 106, 111, 105, 110, 105, 110, 103, 32]
  | 32 => [124, 97]
  | 33 => [124, 99]
  | 34 => [124, 100]
  | 35 => [124, 101]
  | 36 => [124, 111, 119, 101, 115, 32]
  | _ => []
def zz_sr : List (String × Nat × String) := [("TurnQueues$Reader", 54, "house"), ("TurnQueues$Reader", 60, "law"), ("TurnQueues$Reader", 68, "balance"), ("TurnQueues$Reader", 103, "put"), ("TurnQueues$Reader", 109, "take"), ("TurnQueues$Reader", 111, "fore"), ("TurnQueues$Reader", 113, "last"), ("TurnQueues$History", 198, "f"), ("TurnQueues$History", 208, "|b"), ("TurnQueues$History", 234, "|turning "), ("TurnQueues$History", 239, "|a"), ("TurnQueues$History", 244, "|c"), ("TurnQueues$History", 249, "|d"), ("TurnQueues$History", 254, "|e"), ("TurnQueues$History", 259, "|joining "), ("TurnQueues$History", 261, "|idle"), ("TurnQueues$History", 217, "|owes "), ("TurnQueues$History", 226, " "), ("TurnQueuesModel", 273, "house"), ("TurnQueuesModel", 275, "law"), ("TurnQueuesModel", 280, "balance"), ("TurnQueuesModel", 256, "put"), ("TurnQueuesModel", 258, "take"), ("TurnQueuesModel", 263, "fore"), ("TurnQueuesModel", 265, "last"), ("TurnQueuesModel", 453, "f"), ("TurnQueuesModel", 433, " "), ("TurnQueuesModel", 421, "-"), ("TurnQueuesModel", 455, "|b"), ("TurnQueuesModel", 435, "|idle"), ("TurnQueuesModel", 437, "|turning "), ("TurnQueuesModel", 439, "|joining "), ("TurnQueuesModel", 441, "|a"), ("TurnQueuesModel", 447, "|c"), ("TurnQueuesModel", 449, "|d"), ("TurnQueuesModel", 451, "|e"), ("TurnQueuesModel", 460, "|owes ")]
def zz_S (X : zz_X) (U : State) (H : Heap) : Prop := ∀ i, i < zz_nS → va_O "java/lang/String" (X.sa i) (zz_A X) U H ∧ va_OF "java/lang/String" "coder" "B" (.int 0) (X.sa i) (zz_A X) U H ∧ va_OF "java/lang/String" "value" "[B" (.ref (X.sv i)) (X.sa i) (zz_A X) U H ∧ va_T .byte (X.sv i) (zz_tx i).length (fun j => .int (nI ((zz_tx i).getD j 0))) (zz_A X) U H
def zz_ml : List MethodName := [⟨"TurnQueues$Bytes", "<init>", "(I)V"⟩, ⟨"TurnQueues$Bytes", "add", "(I)V"⟩, ⟨"TurnQueues$Bytes", "addFour", "(I)V"⟩, ⟨"TurnQueues$Bytes", "addWord", "(Ljava/lang/String;)V"⟩, ⟨"TurnQueues$Bytes", "addNumber", "(I)V"⟩, ⟨"TurnQueues$Bytes", "byteAt", "(I)I"⟩, ⟨"TurnQueues$Bytes", "equalTo", "(LTurnQueues$Bytes;)Z"⟩, ⟨"TurnQueues$Cells", "<init>", "(I)V"⟩, ⟨"TurnQueues$Cells", "numberOf", "(I)I"⟩, ⟨"TurnQueues$Cells", "makerOf", "(I)I"⟩, ⟨"TurnQueues$Cells", "behind", "(I)I"⟩, ⟨"TurnQueues$Cells", "add", "(LTurnQueues$Row;II)V"⟩, ⟨"TurnQueues$Cells", "dropFirst", "(LTurnQueues$Row;)V"⟩, ⟨"TurnQueues$Cells", "cellIn", "(LTurnQueues$Row;I)I"⟩, ⟨"TurnQueues$Cells", "unmarkAll", "()V"⟩, ⟨"TurnQueues$Cells", "markState", "(LTurnQueues$State;I)I"⟩, ⟨"TurnQueues$Cells", "markRow", "(LTurnQueues$Row;I)I"⟩, ⟨"TurnQueues$Deeds", "<init>", "()V"⟩, ⟨"TurnQueues$Deeds", "clear", "()V"⟩, ⟨"TurnQueues$Deeds", "become", "(LTurnQueues$Deeds;)V"⟩, ⟨"TurnQueues$Deeds", "add", "(III)V"⟩, ⟨"TurnQueues$Deeds", "versions", "()I"⟩, ⟨"TurnQueues$Deeds", "lines", "()I"⟩, ⟨"TurnQueues$Deeds", "acts", "()I"⟩, ⟨"TurnQueues$Deeds", "hasVersion", "(I)Z"⟩, ⟨"TurnQueues$Deeds", "hasDeed", "(I)Z"⟩, ⟨"TurnQueues$Deeds", "baseOf", "(I)I"⟩, ⟨"TurnQueues$Deeds", "depth", "(I)I"⟩, ⟨"TurnQueues$Deeds", "meeting", "(II)I"⟩, ⟨"TurnQueues$Deeds", "madeOf", "(I)I"⟩, ⟨"TurnQueues$Deeds", "lawRefusal", "(I)I"⟩, ⟨"TurnQueues$History", "<init>", "()V"⟩, ⟨"TurnQueues$History", "become", "(LTurnQueues$Deeds;)V"⟩, ⟨"TurnQueues$History", "enact", "(I)V"⟩, ⟨"TurnQueues$History", "stateOf", "(I)LTurnQueues$State;"⟩, ⟨"TurnQueues$History", "queueOf", "(I)LTurnQueues$Numbers;"⟩, ⟨"TurnQueues$History", "rowOf", "(II)LTurnQueues$Row;"⟩, ⟨"TurnQueues$History", "hasAll", "(III)Z"⟩, ⟨"TurnQueues$History", "actPutting", "(III)I"⟩, ⟨"TurnQueues$History", "actTaking", "(II)I"⟩, ⟨"TurnQueues$History", "actAlongWay", "(II)I"⟩, ⟨"TurnQueues$History", "cutTo", "(I)V"⟩, ⟨"TurnQueues$History", "findWay", "(II)I"⟩, ⟨"TurnQueues$History", "wayDeed", "(I)I"⟩, ⟨"TurnQueues$History", "stepsOnWay", "(I)I"⟩, ⟨"TurnQueues$History", "mostOnWay", "(I)I"⟩, ⟨"TurnQueues$History", "stepsOf", "(I)I"⟩, ⟨"TurnQueues$History", "stepsOfAll", "()I"⟩, ⟨"TurnQueues$History", "dearestDeed", "()I"⟩, ⟨"TurnQueues$History", "overdueDeeds", "()I"⟩, ⟨"TurnQueues$History", "heldByAll", "()I"⟩, ⟨"TurnQueues$History", "heldBySet", "(J)I"⟩, ⟨"TurnQueues$History", "leastEqual", "(I)I"⟩, ⟨"TurnQueues$History", "leastToldAlike", "(I)I"⟩, ⟨"TurnQueues$History", "write", "(ILTurnQueues$Bytes;)V"⟩, ⟨"TurnQueues$History", "writeTurn", "(LTurnQueues$Bytes;LTurnQueues$State;)V"⟩, ⟨"TurnQueues$History", "writeCount", "(LTurnQueues$Bytes;Ljava/lang/String;I)V"⟩, ⟨"TurnQueues$History", "writeRow", "(LTurnQueues$Bytes;Ljava/lang/String;LTurnQueues$Row;)V"⟩, ⟨"TurnQueues$Mill", "<init>", "(II)V"⟩, ⟨"TurnQueues$Mill", "obey", "(II)V"⟩, ⟨"TurnQueues$Mill", "perform", "(LTurnQueues$State;III)I"⟩, ⟨"TurnQueues$Mill", "change", "(LTurnQueues$State;II)V"⟩, ⟨"TurnQueues$Mill", "move", "(LTurnQueues$Row;LTurnQueues$Row;)V"⟩, ⟨"TurnQueues$Mill", "turnAtOnce", "(LTurnQueues$State;)V"⟩, ⟨"TurnQueues$Mill", "disown", "(LTurnQueues$State;)V"⟩, ⟨"TurnQueues$Mill", "turnBySteps", "(LTurnQueues$State;)V"⟩, ⟨"TurnQueues$Mill", "beginTurning", "(LTurnQueues$State;)V"⟩, ⟨"TurnQueues$Mill", "turnOnce", "(LTurnQueues$State;)V"⟩, ⟨"TurnQueues$Mill", "even", "(LTurnQueues$State;I)V"⟩, ⟨"TurnQueues$Mill", "split", "(LTurnQueues$State;LTurnQueues$Row;LTurnQueues$Row;)V"⟩, ⟨"TurnQueues$Mill", "lay", "(LTurnQueues$Row;II)V"⟩, ⟨"TurnQueues$Mill", "laidAt", "(I)I"⟩, ⟨"TurnQueues$Numbers", "<init>", "(I)V"⟩, ⟨"TurnQueues$Numbers", "become", "(LTurnQueues$Numbers;)V"⟩, ⟨"TurnQueues$Numbers", "numberAt", "(I)I"⟩, ⟨"TurnQueues$Numbers", "change", "(II)I"⟩, ⟨"TurnQueues$Numbers", "insert", "(II)V"⟩, ⟨"TurnQueues$Numbers", "remove", "(I)I"⟩, ⟨"TurnQueues$Numbers", "equalTo", "(LTurnQueues$Numbers;)Z"⟩, ⟨"TurnQueues$Reader", "<init>", "()V"⟩, ⟨"TurnQueues$Reader", "readText", "(LTurnQueues$Bytes;)Z"⟩, ⟨"TurnQueues$Reader", "readHouseLine", "(LTurnQueues$Bytes;)V"⟩, ⟨"TurnQueues$Reader", "readDeedLine", "(LTurnQueues$Bytes;)V"⟩, ⟨"TurnQueues$Reader", "expectVersion", "(LTurnQueues$Bytes;Z)I"⟩, ⟨"TurnQueues$Reader", "kindOfWord", "(LTurnQueues$Bytes;)I"⟩, ⟨"TurnQueues$Reader", "refuse", "(I)V"⟩, ⟨"TurnQueues$Reader", "expectWord", "(LTurnQueues$Bytes;Ljava/lang/String;)V"⟩, ⟨"TurnQueues$Reader", "expectSign", "(LTurnQueues$Bytes;)V"⟩, ⟨"TurnQueues$Reader", "expectNumber", "(LTurnQueues$Bytes;II)I"⟩, ⟨"TurnQueues$Reader", "isWord", "(LTurnQueues$Bytes;Ljava/lang/String;)Z"⟩, ⟨"TurnQueues$Reader", "step", "(LTurnQueues$Bytes;)V"⟩, ⟨"TurnQueues$Reader", "readWord", "(LTurnQueues$Bytes;)V"⟩, ⟨"TurnQueues$Reader", "readNumber", "(LTurnQueues$Bytes;)V"⟩, ⟨"TurnQueues$Reader", "isBlank", "(I)Z"⟩, ⟨"TurnQueues$Reader", "isLetter", "(I)Z"⟩, ⟨"TurnQueues$Reader", "isDigit", "(I)Z"⟩, ⟨"TurnQueues$Row", "<init>", "()V"⟩, ⟨"TurnQueues$Row", "become", "(LTurnQueues$Row;)V"⟩, ⟨"TurnQueues$Row", "clear", "()V"⟩, ⟨"TurnQueues$Scout", "<init>", "()V"⟩, ⟨"TurnQueues$Scout", "tryAll", "(LTurnQueues$Deeds;LTurnQueues$State;I)V"⟩, ⟨"TurnQueues$Scout", "tryFrom", "(LTurnQueues$Scout;II)V"⟩, ⟨"TurnQueues$Scout", "noteDeed", "(III)V"⟩, ⟨"TurnQueues$Scout", "noteRow", "(I)V"⟩, ⟨"TurnQueues$Scout", "worstKind", "(I)I"⟩, ⟨"TurnQueues$Scout", "fewestFor", "(I)I"⟩, ⟨"TurnQueues$State", "<init>", "()V"⟩, ⟨"TurnQueues$State", "clearTurn", "()V"⟩, ⟨"TurnQueues$State", "become", "(LTurnQueues$State;)V"⟩, ⟨"TurnQueues$State", "isAtRest", "()Z"⟩, ⟨"TurnQueues$State", "rowNumbered", "(I)LTurnQueues$Row;"⟩, ⟨"TurnQueues$Trial", "<init>", "()V"⟩, ⟨"TurnQueues$Trial", "begin", "(LTurnQueues$Deeds;LTurnQueues$State;)V"⟩, ⟨"TurnQueues$Trial", "stepsOfAll", "(LTurnQueues$Deeds;II)I"⟩, ⟨"TurnQueues$Trial", "cheapestRatio", "(LTurnQueues$Deeds;)I"⟩, ⟨"TurnQueues$Trial", "putsTillTurned", "(LTurnQueues$Deeds;LTurnQueues$State;)I"⟩, ⟨"TurnQueues$Trial", "putsTillAtRest", "(LTurnQueues$Deeds;LTurnQueues$State;)I"⟩, ⟨"TurnQueues$Trial", "stepsToDrain", "(LTurnQueues$Deeds;LTurnQueues$State;)I"⟩, ⟨"TurnQueues$Trial", "stepsOfLetters", "(LTurnQueues$Deeds;LTurnQueues$State;LTurnQueues$Bytes;)I"⟩, ⟨"TurnQueues$Trial", "kindOfLetter", "(II)I"⟩, ⟨"TurnQueues$Trial", "graftWay", "(LTurnQueues$History;III)I"⟩, ⟨"TurnQueues$Trial", "graftDeed", "(LTurnQueues$Deeds;I)V"⟩, ⟨"TurnQueues", "<init>", "()V"⟩, ⟨"TurnQueues", "feed", "(IIIII)I"⟩, ⟨"TurnQueues", "end", "(I)I"⟩, ⟨"TurnQueues", "house", "()I"⟩, ⟨"TurnQueues", "fault", "(I)I"⟩, ⟨"TurnQueues", "count", "(I)I"⟩, ⟨"TurnQueues", "version", "(II)I"⟩, ⟨"TurnQueues", "size", "(I)I"⟩, ⟨"TurnQueues", "at", "(II)I"⟩, ⟨"TurnQueues", "first", "(I)I"⟩, ⟨"TurnQueues", "tail", "(I)I"⟩, ⟨"TurnQueues", "like", "(I)I"⟩, ⟨"TurnQueues", "forks", "(I)I"⟩, ⟨"TurnQueues", "meet", "(II)I"⟩, ⟨"TurnQueues", "apart", "(II)I"⟩, ⟨"TurnQueues", "state", "(II)I"⟩, ⟨"TurnQueues", "row", "(II)I"⟩, ⟨"TurnQueues", "cell", "(III)I"⟩, ⟨"TurnQueues", "twin", "(I)I"⟩, ⟨"TurnQueues", "path", "(II)I"⟩, ⟨"TurnQueues", "along", "(II)I"⟩, ⟨"TurnQueues", "origin", "(III)I"⟩, ⟨"TurnQueues", "from", "(II)I"⟩, ⟨"TurnQueues", "lost", "()I"⟩, ⟨"TurnQueues", "holds", "(I)I"⟩, ⟨"TurnQueues", "shares", "(II)I"⟩, ⟨"TurnQueues", "held", "(J)I"⟩, ⟨"TurnQueues", "made", "()I"⟩, ⟨"TurnQueues", "spent", "(I)I"⟩, ⟨"TurnQueues", "ledger", "()I"⟩, ⟨"TurnQueues", "dearest", "()I"⟩, ⟨"TurnQueues", "overdue", "()I"⟩, ⟨"TurnQueues", "by", "(I)I"⟩, ⟨"TurnQueues", "peak", "(I)I"⟩, ⟨"TurnQueues", "balanced", "(I)I"⟩, ⟨"TurnQueues", "balance", "()I"⟩, ⟨"TurnQueues", "until", "(I)I"⟩, ⟨"TurnQueues", "rest", "(I)I"⟩, ⟨"TurnQueues", "worst", "(III)I"⟩, ⟨"TurnQueues", "worstAt", "(III)I"⟩, ⟨"TurnQueues", "spike", "(II)I"⟩, ⟨"TurnQueues", "drain", "(I)I"⟩, ⟨"TurnQueues", "tell", "(I)I"⟩, ⟨"TurnQueues", "octet", "(I)I"⟩, ⟨"TurnQueues", "walk", "(I)I"⟩, ⟨"TurnQueues", "grafting", "(IIII)I"⟩, ⟨"TurnQueues", "grafted", "(IIII)I"⟩, ⟨"TurnQueues", "graft", "(III)I"⟩, ⟨"TurnQueues", "image", "(I)I"⟩, ⟨"TurnQueues", "back", "(I)I"⟩, ⟨"TurnQueues", "put", "(II)I"⟩, ⟨"TurnQueues", "take", "(I)I"⟩, ⟨"TurnQueues", "fore", "(II)I"⟩, ⟨"TurnQueues", "last", "(I)I"⟩, ⟨"TurnQueues", "undo", "()I"⟩, ⟨"TurnQueues", "anew", "()I"⟩, ⟨"TurnQueues", "isPutting", "(I)Z"⟩, ⟨"TurnQueuesModel", "<init>", "()V"⟩, ⟨"TurnQueuesModel", "in", "(JJJ)Z"⟩, ⟨"TurnQueuesModel", "ahead", "(II)I"⟩, ⟨"TurnQueuesModel", "lengthOf", "(I)I"⟩, ⟨"TurnQueuesModel", "of", "(II)I"⟩, ⟨"TurnQueuesModel", "sets", "(III)V"⟩, ⟨"TurnQueuesModel", "empties", "(I)V"⟩, ⟨"TurnQueuesModel", "copies", "(II)V"⟩, ⟨"TurnQueuesModel", "pushes", "(III)V"⟩, ⟨"TurnQueuesModel", "pops", "(II)I"⟩, ⟨"TurnQueuesModel", "deeds", "(IIII)I"⟩, ⟨"TurnQueuesModel", "turnsAll", "(I)V"⟩, ⟨"TurnQueuesModel", "goesOn", "(IZ)V"⟩, ⟨"TurnQueuesModel", "takenBy", "(I)V"⟩, ⟨"TurnQueuesModel", "becomesReady", "(I)V"⟩, ⟨"TurnQueuesModel", "begins", "(II)V"⟩, ⟨"TurnQueuesModel", "turns", "(I)V"⟩, ⟨"TurnQueuesModel", "evens", "(II)V"⟩, ⟨"TurnQueuesModel", "evensBy", "(III)V"⟩, ⟨"TurnQueuesModel", "asked", "(II)I"⟩, ⟨"TurnQueuesModel", "laysQueue", "(IIII)V"⟩, ⟨"TurnQueuesModel", "makes", "(III)I"⟩, ⟨"TurnQueuesModel", "beginsHouse", "()V"⟩, ⟨"TurnQueuesModel", "feed", "(IIIII)I"⟩, ⟨"TurnQueuesModel", "end", "(I)I"⟩, ⟨"TurnQueuesModel", "see", "(I)I"⟩, ⟨"TurnQueuesModel", "advance", "()V"⟩, ⟨"TurnQueuesModel", "good", "()Z"⟩, ⟨"TurnQueuesModel", "errs", "(I)V"⟩, ⟨"TurnQueuesModel", "is", "(Ljava/lang/String;)Z"⟩, ⟨"TurnQueuesModel", "takes", "(II)I"⟩, ⟨"TurnQueuesModel", "told", "(Ljava/lang/String;II)I"⟩, ⟨"TurnQueuesModel", "fault", "(I)I"⟩, ⟨"TurnQueuesModel", "kindHere", "()I"⟩, ⟨"TurnQueuesModel", "readDeed", "()V"⟩, ⟨"TurnQueuesModel", "house", "()I"⟩, ⟨"TurnQueuesModel", "isHouse", "()Z"⟩, ⟨"TurnQueuesModel", "isVersion", "(I)Z"⟩, ⟨"TurnQueuesModel", "deedMany", "()I"⟩, ⟨"TurnQueuesModel", "count", "(I)I"⟩, ⟨"TurnQueuesModel", "version", "(II)I"⟩, ⟨"TurnQueuesModel", "size", "(I)I"⟩, ⟨"TurnQueuesModel", "at", "(II)I"⟩, ⟨"TurnQueuesModel", "first", "(I)I"⟩, ⟨"TurnQueuesModel", "tail", "(I)I"⟩, ⟨"TurnQueuesModel", "areLike", "(II)Z"⟩, ⟨"TurnQueuesModel", "like", "(I)I"⟩, ⟨"TurnQueuesModel", "forks", "(I)I"⟩, ⟨"TurnQueuesModel", "meetOf", "(II)I"⟩, ⟨"TurnQueuesModel", "meet", "(II)I"⟩, ⟨"TurnQueuesModel", "apart", "(II)I"⟩, ⟨"TurnQueuesModel", "areLikeRows", "(III)Z"⟩, ⟨"TurnQueuesModel", "areTwins", "(II)Z"⟩, ⟨"TurnQueuesModel", "twin", "(I)I"⟩, ⟨"TurnQueuesModel", "deepOf", "(I)I"⟩, ⟨"TurnQueuesModel", "path", "(II)I"⟩, ⟨"TurnQueuesModel", "along", "(II)I"⟩, ⟨"TurnQueuesModel", "deedOf", "(I)I"⟩, ⟨"TurnQueuesModel", "origin", "(III)I"⟩, ⟨"TurnQueuesModel", "from", "(II)I"⟩, ⟨"TurnQueuesModel", "lost", "()I"⟩, ⟨"TurnQueuesModel", "state", "(II)I"⟩, ⟨"TurnQueuesModel", "row", "(II)I"⟩, ⟨"TurnQueuesModel", "cell", "(III)I"⟩, ⟨"TurnQueuesModel", "forgets", "()V"⟩, ⟨"TurnQueuesModel", "marks", "(II)V"⟩, ⟨"TurnQueuesModel", "marked", "(I)I"⟩, ⟨"TurnQueuesModel", "holds", "(I)I"⟩, ⟨"TurnQueuesModel", "shares", "(II)I"⟩, ⟨"TurnQueuesModel", "held", "(J)I"⟩, ⟨"TurnQueuesModel", "made", "()I"⟩, ⟨"TurnQueuesModel", "spent", "(I)I"⟩, ⟨"TurnQueuesModel", "ledger", "()I"⟩, ⟨"TurnQueuesModel", "dearest", "()I"⟩, ⟨"TurnQueuesModel", "overdue", "()I"⟩, ⟨"TurnQueuesModel", "replays", "(II)I"⟩, ⟨"TurnQueuesModel", "isTwoSided", "()Z"⟩, ⟨"TurnQueuesModel", "asksLaw", "(I)I"⟩, ⟨"TurnQueuesModel", "by", "(I)I"⟩, ⟨"TurnQueuesModel", "peak", "(I)I"⟩, ⟨"TurnQueuesModel", "balanced", "(I)I"⟩, ⟨"TurnQueuesModel", "balance", "()I"⟩, ⟨"TurnQueuesModel", "until", "(I)I"⟩, ⟨"TurnQueuesModel", "isAtRest", "(I)Z"⟩, ⟨"TurnQueuesModel", "rest", "(I)I"⟩, ⟨"TurnQueuesModel", "goes", "(III)V"⟩, ⟨"TurnQueuesModel", "goesAll", "(II)V"⟩, ⟨"TurnQueuesModel", "worstAt", "(III)I"⟩, ⟨"TurnQueuesModel", "spike", "(II)I"⟩, ⟨"TurnQueuesModel", "worst", "(III)I"⟩, ⟨"TurnQueuesModel", "drain", "(I)I"⟩, ⟨"TurnQueuesModel", "laysWay", "(II)Z"⟩, ⟨"TurnQueuesModel", "takesOut", "(I)V"⟩, ⟨"TurnQueuesModel", "putsIn", "(II)V"⟩, ⟨"TurnQueuesModel", "grafts", "(I)I"⟩, ⟨"TurnQueuesModel", "areThree", "(III)Z"⟩, ⟨"TurnQueuesModel", "grafting", "(IIII)I"⟩, ⟨"TurnQueuesModel", "grafted", "(IIII)I"⟩, ⟨"TurnQueuesModel", "graft", "(III)I"⟩, ⟨"TurnQueuesModel", "tells", "(Ljava/lang/String;)V"⟩, ⟨"TurnQueuesModel", "tellsNumber", "(I)V"⟩, ⟨"TurnQueuesModel", "tellsRow", "(Ljava/lang/String;I)V"⟩, ⟨"TurnQueuesModel", "tellsState", "(I)V"⟩, ⟨"TurnQueuesModel", "tell", "(I)I"⟩, ⟨"TurnQueuesModel", "octet", "(I)I"⟩, ⟨"TurnQueuesModel", "kindBy", "(I)I"⟩, ⟨"TurnQueuesModel", "walks", "(II)I"⟩, ⟨"TurnQueuesModel", "walk", "(I)I"⟩, ⟨"TurnQueuesModel", "isFull", "()Z"⟩, ⟨"TurnQueuesModel", "put", "(II)I"⟩, ⟨"TurnQueuesModel", "take", "(I)I"⟩, ⟨"TurnQueuesModel", "fore", "(II)I"⟩, ⟨"TurnQueuesModel", "last", "(I)I"⟩, ⟨"TurnQueuesModel", "image", "(I)I"⟩, ⟨"TurnQueuesModel", "back", "(I)I"⟩, ⟨"TurnQueuesModel", "takesBack", "()V"⟩, ⟨"TurnQueuesModel", "undo", "()I"⟩, ⟨"TurnQueuesModel", "anew", "()I"⟩, ⟨"java/lang/String", "length", "()I"⟩, ⟨"java/lang/String", "charAt", "(I)C"⟩, ⟨"java/lang/Math", "max", "(II)I"⟩, ⟨"java/lang/Math", "min", "(II)I"⟩, ⟨"java/lang/Math", "abs", "(I)I"⟩]
def zz_mn (n : Nat) : MethodName := zz_ml.getD n ⟨"", "", ""⟩
/-- the static methods that a nest mate calls -/
def zz_nl : List (String × Nat × MethodName) := [("TurnQueues$Reader", 84, ⟨"TurnQueues", "isPutting", "(I)Z"⟩), ("TurnQueues$Mill", 61, ⟨"TurnQueues", "isPutting", "(I)Z"⟩), ("TurnQueues$Trial", 117, ⟨"TurnQueues", "isPutting", "(I)Z"⟩)]
def zz_SR (X : zz_X) (U : State) : Prop := (∀ (i : Nat) (q : String × Nat × String), zz_sr[i]? = some q → vk_R q.1 q.2.1 q.2.2 (X.sa i) U) ∧ ∀ (i : Nat) (q : String × Nat × MethodName), zz_nl[i]? = some q → va_Nw (.methodLinkNest q.1 q.2.1 q.2.2 "TurnQueues") U
/-- what holds around the own cells -/
def zz_E (X : zz_X) (U : State) (H : Heap) : Prop := va_K X.D zz_cl (zz_tys X) U ∧ zz_S X U H ∧ zz_SR X U ∧ va_Z "java/lang/String" "COMPACT_STRINGS" "Z" (.int 1) (zz_A X) U H ∧ va_Zq "jdk/internal/util/Preconditions" "SIOOBE_FORMATTER" "Ljava/util/function/BiFunction;" (zz_A X) U H ∧ X.b ≤ H.size
/-- the memory lies in the heap -/
def zz_R (X : zz_X) (σ : zz_M) (H : Heap) : Prop := va_P X.D zz_cl (zz_ws X σ) H ∧ (∀ f a, zz_in (σ.1 f a)) ∧ (∀ a i, zz_in (σ.2 a i))
def zz_toV (X : zz_X) : zz_V → Value
  | .inl i => .int (Int32.ofInt i)
  | .inr (.inl i) => .long (Int64.ofInt i)
  | .inr (.inr (.inl q)) => .ref q.2.2.2
  | .inr (.inr (.inr 0)) => .null
  | .inr (.inr (.inr 1)) => .null
  | .inr (.inr (.inr (k + 2))) => .ref (X.sa k)
/-- a good value: in range; a cell that is there -/
def zz_ok (X : zz_X) : zz_V → Prop
  | .inl i => zz_in i
  | .inr (.inl i) => zz_inL i
  | .inr (.inr (.inl q)) => ∃ i, i < zz_n ∧ q.2.2.2 = X.b + i ∧ zz_K i = (q.1, q.2.1, q.2.2.1)
  | .inr (.inr (.inr k)) => k < 2 ∨ k - 2 < zz_nS
def zz_lk (X : zz_X) (k : Nat) : Option zz_V → Option (Nat × Value)
  | some (.inr (.inr (.inr 1))) => none
  | some v => some (k, zz_toV X v)
  | none => none
def zz_lv (X : zz_X) (ls : List zz_V) : List (Nat × Value) := (List.range ls.length).filterMap (fun (k : Nat) => zz_lk X k ls[k]?)
end
section
/-! JUDGEMENTS over the pure machine: zz_G (a place in a method comes to its end), zz_T (a method's contract). -/
def zz_len : Instr → Nat
  | .iload_n _ | .lload_n _ | .aload_n _ | .istore_n _ | .astore_n _ | .iconst _ | .lconst _ | .aconst_null | .iadd | .isub | .imul | .idiv | .irem | .iand | .ior | .ishr | .iushr | .i2b | .i2l | .lsub | .land | .lcmp | .lshl | .lshr | .lushr | .dup | .dup2 | .pop | .arraylength | .iaload | .baload | .aaload | .iastore | .bastore | .ireturn | .areturn | .return_ => 1
  | .iload _ | .lload _ | .aload _ | .istore _ | .astore _ | .bipush _ | .ldc _ => 2
  | .sipush _ | .iinc _ _ | .getfield _ | .putfield _ | .ldc_w _ | .ldc2_w _ | .goto _ | .ifCond _ _ | .if_icmp _ _ | .ifnull _ | .ifnonnull _ | .invokevirtual _ | .invokestatic _ => 3
  | _ => 0
def zz_tg (code : List zz_C) (pc : Nat) (off : Int) (t : Nat) : Bool := match code[t]? with
  | some e => decide ((pc : Int) + off = (e.1 : Int))
  | none => false
def zz_end : Instr → Bool
  | .ireturn | .areturn | .return_ | .goto _ => true
  | _ => false
def zz_fT (f : Nat) : String × String × String × Bool := match zz_cl[f / 100]? with
  | some c => c.2.1 (f % 100)
  | none => ("", "", "", false)
/-- what else is asked of a row of code, by its instruction -/
def zz_ck (own : String) (maxL : Nat) (code : List zz_C) (pc len : Nat) (ins : Instr) (ts : List Nat) : Bool := match ins, ts with
  | .goto o, ts => decide (len = 3) && zz_tg code pc o (ts.getD 0 0)
  | .ifCond _ o, ts => decide (len = 3) && zz_tg code pc o (ts.getD 0 0)
  | .if_icmp _ o, ts => decide (len = 3) && zz_tg code pc o (ts.getD 0 0)
  | .ifnull o, ts => decide (len = 3) && zz_tg code pc o (ts.getD 0 0)
  | .ifnonnull o, ts => decide (len = 3) && zz_tg code pc o (ts.getD 0 0)
  | .tableswitch d lo hi offs, ts => decide (hi = lo + offs.size - 1) && decide (ts.length = offs.size + 1) && zz_tg code pc d (ts.getD 0 0) && (List.range offs.size).all (fun k => zz_tg code pc (offs.getD k 0) (ts.getD (k + 1) 0))
  | .lookupswitch d ps, ts => (ps.toList.zip (ps.toList.drop 1)).all (fun (a, next) => decide (a.1 < next.1)) && zz_tg code pc d (ts.getD 0 0) && (List.range ps.size).all (fun k => zz_tg code pc (ps.getD k (0, 0)).2 (ts.getD (k + 1) 0))
  | .iconst n, _ => decide (len = 1) && decide (-10 < n) && decide (n < 10)
  | .bipush n, _ => decide (len = 2) && decide ((Int8.ofInt n).toInt32 = Int32.ofInt n) && decide (-200 < n) && decide (n < 200)
  | .sipush n, _ => decide (len = 3) && decide ((Int16.ofInt n).toInt32 = Int32.ofInt n) && decide (-40000 < n) && decide (n < 40000)
  | .getfield _, ts => decide (len = 3) && decide (ts.getD 0 0 / 100 < 13) && decide (ts.getD 0 0 % 100 < zz_nf (ts.getD 0 0 / 100))
  | .putfield _, ts => decide (len = 3) && decide (ts.getD 0 0 / 100 < 13) && decide (ts.getD 0 0 % 100 < zz_nf (ts.getD 0 0 / 100)) && decide ((zz_fT (ts.getD 0 0)).2.2.2 = false)
  | .iinc k n, _ => decide (len = 3) && decide (k < maxL) && decide (-1000 < n) && decide (n < 1000)
  | .ldc i, ts => decide (len = 2) && (match ts with
    | [0, k] => decide ((zz_sr.getD k ("", 0, "")).1 = own) && decide ((zz_sr.getD k ("", 0, "")).2.1 = i) && decide (k < zz_nS)
    | [1, v] => decide (v < 1000000)
    | _ => false)
  | .ldc_w i, ts => decide (len = 3) && (match ts with
    | [0, k] => decide ((zz_sr.getD k ("", 0, "")).1 = own) && decide ((zz_sr.getD k ("", 0, "")).2.1 = i) && decide (k < zz_nS)
    | [1, v] => decide (v < 1000000)
    | _ => false)
  | .invokestatic i, ts => decide (len = 3) && (match ts with
    | [n, k] => decide (zz_nl[k]? = some (own, i, zz_mn n))
    | _ => true)
  | .ldc2_w _, ts => decide (len = 3) && decide (ts.getD 0 0 < 1000000)
  | ins, _ => decide (len = zz_len ins)
/-- a row of code is what the bytes say; its targets are rows -/
def zz_dc (own : String) (bytes : ByteArray) (maxL : Nat) (code : List zz_C) (e : zz_C) (j : Nat) : Bool :=
  decide (decode bytes e.1 = .ok (e.2.1, e.2.2.1)) &&
  (match code[j + 1]? with
    | some e' => decide (e'.1 = e.1 + e.2.2.1)
    | none => zz_end e.2.1) && zz_ck own maxL code e.1 e.2.2.1 e.2.1 e.2.2.2
/-- the tables' words that a row of code wants -/
def zz_wd (mn : Nat → MethodName) (own : String) (e : zz_C) : List Cond := match e.2.1, e.2.2.2 with
  | .getfield i, f :: _ => [.fieldLink own i (zz_fT f).1 (zz_fT f).2.1 (zz_fT f).2.2.1]
  | .putfield i, f :: _ => [.fieldLink own i (zz_fT f).1 (zz_fT f).2.1 (zz_fT f).2.2.1]
  | .invokevirtual i, n :: _ => [.methodLink own i (mn n)]
  | .invokestatic i, [n] => [.methodLink own i (mn n)]
  | .ldc i, [1, v] => [.constant own i (Int32.ofInt (v : Nat))]
  | .ldc_w i, [1, v] => [.constant own i (Int32.ofInt (v : Nat))]
  | .ldc2_w i, v :: _ => [.constantLong own i (Int64.ofInt (v : Nat))]
  | _, _ => []
def zz_pc (P : zz_P) (j : Nat) : Nat := match P.code[j]? with
  | some e => e.1
  | none => 0
/-- the static ones -/
def zz_isS (n : Nat) : Bool := [93, 94, 95, 101, 119, 178, 180].contains n
def zz_okP (P : zz_P) : Prop := (P.code.zipIdx.all (fun q => zz_dc P.y.cls P.bytes P.maxL P.code q.1 q.2)) = true ∧ ∀ w ∈ P.code.flatMap (zz_wd zz_mn P.y.cls), w ∈ zz_tb
def zz_room (d : Nat) : Room := { frames := d, cells := 0, slots := 0, locals := 40 * d }
def zz_Q (X : zz_X) (Post : Option zz_V → zz_M → Prop) : Array Value → State → Outcome → State → Prop := fun _ st o t => (∃ (r : Option zz_V) (σ : zz_M), o = .returned (r.map (zz_toV X)) ∧ (∀ v, r = some v → zz_ok X v) ∧ Post r σ ∧ zz_R X σ t.heap) ∧ va_F (zz_A X) st t
def zz_G (X : zz_X) (d : Nat) (P : zz_P) (j : Nat) (ls st : List zz_V) (σ : zz_M) (Post : Option zz_V → zz_M → Prop) : Prop :=
  ∀ (p : Program) (e : Env) (s : State) (m : MethodId) (args : Array Value) (below : List Frame) (meth : Method) (c : Code) (H : Heap) (locs : List Loc) (lm : Array Slot),
    zz_okP P → p.tables.exec = Jvm.exec → c.code = P.bytes → c.maxLocals = P.maxL → meth.sig.returnType = P.ret → meth.locks = false → s.vm.findClass P.y.cls = some m.cls → (∀ w ∈ zz_tb, w.before args s = true) → zz_E X s s.heap → va_S (zz_A X) s.heap H locs → zz_R X σ H → lv_has lm P.maxL (zz_lv X ls) → ls.length = P.maxL → (∀ v ∈ ls, zz_ok X v) → (∀ v ∈ st, zz_ok X v) →
    W p X.l e (zz_room d) s m args below meth c H locs 0 0 (MQ below (zz_Q X Post) args s 0 0 (zz_A X)) (F0 m (zz_pc P j) lm (st.map (zz_toV X)))
theorem zw_in (x : Int) : zz_in (zw x) := by
  unfold zz_in zw
  omega
theorem zw_id {x : Int} (h1 : -2147483648 ≤ x) (h2 : x < 2147483648) : zw x = x := by
  unfold zw
  omega
theorem zw_bm (x : Int) : x.bmod (2 ^ 32) = zw x := by
  have e : ((2 ^ 32 : Nat) : Int) = 4294967296 := rfl
  rw [Int.bmod_def, e]
  unfold zw
  split <;> omega
theorem zz_ti (x : Int) : (Int32.ofInt x).toInt = zw x := by
  rw [Int32.toInt_ofInt, zw_bm]
theorem zz_tid {x : Int} (h : zz_in x) : (Int32.ofInt x).toInt = x := by
  rw [zz_ti]
  exact zw_id h.1 h.2
theorem zw_of (x : Int) : Int32.ofInt (zw x) = Int32.ofInt x := by
  rw [← zz_ti, Int32.ofInt_toInt]
theorem zz_i32 (v : Int32) : zz_in v.toInt := ⟨v.le_toInt, v.toInt_lt⟩
theorem zz_b_of (f : Int32 → Int32 → Int32) (x y : Int) : Int32.ofInt (zz_b f x y) = f (Int32.ofInt x) (Int32.ofInt y) := by
  unfold zz_b
  rw [Int32.ofInt_toInt]
theorem zz_l_of (f : Int64 → Int64 → Int64) (x y : Int) : Int64.ofInt (zz_l f x y) = f (Int64.ofInt x) (Int64.ofInt y) := by
  unfold zz_l
  rw [Int64.ofInt_toInt]
theorem zz_i64 (v : Int64) : zz_inL v.toInt := ⟨v.le_toInt, v.toInt_lt⟩
theorem zz_Lbm {x : Int} (h : zz_inL x) : (Int64.ofInt x).toInt = x := by
  obtain ⟨h1, h2⟩ := h
  have e : ((2 ^ 64 : Nat) : Int) = 18446744073709551616 := rfl
  rw [Int64.toInt_ofInt, Int.bmod_def, e]
  split <;> omega
theorem zz_eq0 {x y : Int} (hx : zz_in x) (hy : zz_in y) : Int32.ofInt x = Int32.ofInt y ↔ x = y := by
  rw [← Int32.toInt_inj, zz_tid hx, zz_tid hy]
theorem zz_lt0 {x y : Int} (hx : zz_in x) (hy : zz_in y) : Int32.ofInt x < Int32.ofInt y ↔ x < y := by
  rw [Int32.lt_iff_toInt_lt, zz_tid hx, zz_tid hy]
theorem zz_le0 {x y : Int} (hx : zz_in x) (hy : zz_in y) : Int32.ofInt x ≤ Int32.ofInt y ↔ x ≤ y := by
  rw [Int32.le_iff_toInt_le, zz_tid hx, zz_tid hy]

theorem zz_ws_at (X : zz_X) (σ : zz_M) {i : Nat} (h : i < zz_n) : (zz_ws X σ)[i]? = some (X.b + i, zz_ce X σ (X.b + i) (zz_K i)) := by
  unfold zz_ws
  rw [List.getElem?_map, List.getElem?_range h]
  rfl
theorem zz_ws_D (X : zz_X) (σ : zz_M) : va_D (zz_A X) (zz_ws X σ) := by
  have key : ∀ (k : Nat) (q : Nat × va_E), (zz_ws X σ)[k]? = some q → q.1 = X.b + k := by
    intro k q h
    have hl := (List.getElem?_eq_some_iff.mp h).1
    unfold zz_ws at hl
    rw [List.length_map, List.length_range] at hl
    rw [zz_ws_at X σ hl] at h
    cases h
    rfl
  refine ⟨fun i j p q hp hq e => ?_, fun k q h => ?_⟩
  · rw [key i p hp, key j q hq] at e
    omega
  · show X.b ≤ q.1
    rw [key k q h]
    omega
theorem zz_lv_mem {X : zz_X} {ls : List zz_V} {k : Nat} {v : zz_V} (h : ls[k]? = some v) (hv : v ≠ zU) : (k, zz_toV X v) ∈ zz_lv X ls := by
  refine List.mem_filterMap.mpr ⟨k, List.mem_range.mpr (List.getElem?_eq_some_iff.mp h).1, ?_⟩
  rw [h]
  rcases v with i | i | q | n
  · rfl
  · rfl
  · rfl
  · match n, hv with
    | 0, _ => rfl
    | 1, hv => exact absurd rfl hv
    | n + 2, _ => rfl
theorem zz_lv_of {X : zz_X} {ls : List zz_V} {q : Nat × Value} (h : q ∈ zz_lv X ls) : ∃ v, ls[q.1]? = some v ∧ v ≠ zU ∧ q.2 = zz_toV X v := by
  obtain ⟨k, -, h2⟩ := List.mem_filterMap.mp h
  cases hv : ls[k]? with
  | none => rw [hv] at h2; cases h2
  | some v =>
    rw [hv] at h2
    rcases v with i | i | r | n
    · cases h2; exact ⟨_, hv, (by intro z; cases z), rfl⟩
    · cases h2; exact ⟨_, hv, (by intro z; cases z), rfl⟩
    · cases h2; exact ⟨_, hv, (by intro z; cases z), rfl⟩
    · match n, hv, h2 with
      | 0, hv, h2 => cases h2; exact ⟨_, hv, (by intro z; cases z), rfl⟩
      | 1, hv, h2 => cases h2
      | n + 2, hv, h2 => cases h2; exact ⟨_, hv, (by intro z; cases z), rfl⟩
theorem zz_lv_at {X : zz_X} {lm : Array Slot} {n : Nat} {ls : List zz_V} {k : Nat} {v : zz_V} (hl : lv_has lm n (zz_lv X ls)) (h : ls[k]? = some v) (hv : v ≠ zU) : lm[k]? = some (.val (zz_toV X v)) := hl.2.2 _ (zz_lv_mem h hv)
theorem zz_lv_set {X : zz_X} {lm : Array Slot} {n : Nat} {ls ls' : List zz_V} {k : Nat} {v : zz_V} (hst : zz_st ls k v = some ls') (hl : lv_has lm n ((k, zz_toV X v) :: (zz_lv X ls).filter (fun q => !(q.1 == k) && !(q.1 + 1 == k && q.2.category == 2)))) : lv_has lm n (zz_lv X ls') ∧ ls'.length = ls.length ∧ k < ls.length ∧ ∀ w ∈ ls', w = v ∨ w ∈ ls := by
  have hk : k < ls.length := by
    unfold zz_st at hst
    by_cases h : k < ls.length
    · exact h
    · rw [decide_eq_false h] at hst; cases hst
  have hset : ls' = ls.set k v ∧ ∀ k' i, k = k' + 1 → ls[k']? ≠ some (zL i) := by
    unfold zz_st at hst
    rw [decide_eq_true hk] at hst
    cases k with
    | zero => cases hst; exact ⟨rfl, fun k' i h => by omega⟩
    | succ k =>
      dsimp only at hst
      cases hq : ls[k]? with
      | none =>
        rw [hq] at hst
        cases hst
        exact ⟨rfl, fun k' i h z => by
          have : k' = k := by omega
          subst this
          rw [hq] at z; cases z⟩
      | some w =>
        rw [hq] at hst
        rcases w with i | i | q | m
        · cases hst; exact ⟨rfl, fun k' i h z => by
            have : k' = k := by omega
            subst this
            rw [hq] at z; cases z⟩
        · cases hst
        · cases hst; exact ⟨rfl, fun k' i h z => by
            have : k' = k := by omega
            subst this
            rw [hq] at z; cases z⟩
        · cases hst; exact ⟨rfl, fun k' i h z => by
            have : k' = k := by omega
            subst this
            rw [hq] at z; cases z⟩
  obtain ⟨rfl, hlong⟩ := hset
  refine ⟨⟨hl.1, hl.2.1, fun q hq => hl.2.2 q ?_⟩, by simp, hk, fun w hw => ?_⟩
  · obtain ⟨w, h1, h2, h3⟩ := zz_lv_of hq
    by_cases e : q.1 = k
    · rw [e, List.getElem?_set_self hk] at h1
      cases h1
      rw [show q = (k, zz_toV X v) from Prod.ext e h3]
      exact List.mem_cons_self
    · rw [List.getElem?_set_ne (Ne.symm e)] at h1
      refine List.mem_cons_of_mem _ (List.mem_filter.mpr ⟨?_, ?_⟩)
      · rw [show q = (q.1, zz_toV X w) from Prod.ext rfl h3]
        exact zz_lv_mem h1 h2
      · simp only [Bool.and_eq_true, Bool.not_eq_true', beq_eq_false_iff_ne, Bool.and_eq_false_iff]
        refine ⟨e, ?_⟩
        by_cases e2 : q.1 + 1 = k
        · right
          rw [h3]
          rcases w with i | i | r | m
          · intro z; cases z
          · exact absurd h1 (hlong q.1 i e2.symm)
          · intro z; cases z
          · match m with
            | 0 => intro z; cases z
            | 1 => intro z; cases z
            | m + 2 => intro z; cases z
        · left; exact e2
  · obtain ⟨i, hi, e⟩ := List.mem_iff_getElem.mp hw
    rw [List.getElem_set] at e
    split at e
    · exact Or.inl e.symm
    · right; rw [← e]; exact List.getElem_mem _
end
section
/-! ONE STEP of the pure machine is a step of the real one. -/
theorem zz_fm2 {P : zz_V → Prop} {a b : zz_V} {r : List zz_V} (h : ∀ v ∈ a :: b :: r, P v) : P a ∧ P b ∧ ∀ v ∈ r, P v := by
  obtain ⟨h1, h2⟩ := List.forall_mem_cons.mp h
  obtain ⟨h3, h4⟩ := List.forall_mem_cons.mp h2
  exact ⟨h1, h3, h4⟩
theorem zz_cl_at {t : Nat} (h : t < 13) : ∃ (C : String) (T : u_T) (ty : Nat → FieldType), zz_cl[t]? = some (C, T, zz_nf t) ∧ (∀ w ∈ u_ws C T (zz_nf t), w ∈ zz_tb) ∧ (∀ k, k < zz_nf t → parseFieldDescriptor (T k).2.2.1 = some (ty k)) ∧ (∀ a, a < zz_nf t → ∀ b, b < zz_nf t → a ≠ b → (T a).2.1 ≠ (T b).2.1) := by
  match t, h with
  | 0, _ => exact ⟨zz_R0, zz_T0, zz_t0, rfl, zz_in0, zz_to0, zz_nm0⟩
  | 1, _ => exact ⟨zz_R1, zz_T1, zz_t1, rfl, zz_in1, zz_to1, zz_nm1⟩
  | 2, _ => exact ⟨zz_R2, zz_T2, zz_t2, rfl, zz_in2, zz_to2, zz_nm2⟩
  | 3, _ => exact ⟨zz_R3, zz_T3, zz_t3, rfl, zz_in3, zz_to3, zz_nm3⟩
  | 4, _ => exact ⟨zz_R4, zz_T4, zz_t4, rfl, zz_in4, zz_to4, zz_nm4⟩
  | 5, _ => exact ⟨zz_R5, zz_T5, zz_t5, rfl, zz_in5, zz_to5, zz_nm5⟩
  | 6, _ => exact ⟨zz_R6, zz_T6, zz_t6, rfl, zz_in6, zz_to6, zz_nm6⟩
  | 7, _ => exact ⟨zz_R7, zz_T7, zz_t7, rfl, zz_in7, zz_to7, zz_nm7⟩
  | 8, _ => exact ⟨zz_R8, zz_T8, zz_t8, rfl, zz_in8, zz_to8, zz_nm8⟩
  | 9, _ => exact ⟨zz_R9, zz_T9, zz_t9, rfl, zz_in9, zz_to9, zz_nm9⟩
  | 10, _ => exact ⟨zz_R10, zz_T10, zz_t10, rfl, zz_in10, zz_to10, zz_nm10⟩
  | 11, _ => exact ⟨zz_R11, zz_T11, zz_t11, rfl, zz_in11, zz_to11, zz_nm11⟩
  | 12, _ => exact ⟨zz_R12, zz_T12, zz_t12, rfl, zz_in12, zz_to12, zz_nm12⟩
  | n + 13, h => omega
theorem zz_fT_at {f : Nat} {C : String} {T : u_T} {n : Nat} (h : zz_cl[f / 100]? = some (C, T, n)) : zz_fT f = T (f % 100) := by
  unfold zz_fT
  rw [h]
theorem zz_rf_none_ty {f : Nat} (h : f / 100 < 13) (h2 : f % 100 < zz_nf (f / 100)) : True := trivial
theorem zz_fs_at {t p q : Nat} {σ : zz_M} {a k : Nat} (h : k < zz_nf t) : (zz_fs t p q σ a)[k]? = some (match zz_rf (100 * t + k) p q with
    | some r => .ref (a + r.2.2.2)
    | none => .int (Int32.ofInt (σ.1 (100 * t + k) a))) := by
  unfold zz_fs
  rw [List.getElem?_map, List.getElem?_range h]
  rfl
theorem zz_fs_len (t p q : Nat) (σ : zz_M) (a : Nat) : (zz_fs t p q σ a).length = zz_nf t := by
  unfold zz_fs
  rw [List.length_map, List.length_range]
theorem zz_ce_o {X : zz_X} {σ : zz_M} {a t p q : Nat} (h : t < 13) : zz_ce X σ a (t, p, q) = .inr (t, zz_fs t p q σ a) := by
  unfold zz_ce
  rw [if_pos (by omega)]
theorem zz_fs_sf_ne {t p q : Nat} {σ : zz_M} {f a b : Nat} {v : Int} (h : b ≠ a) : zz_fs t p q (zz_sf σ f a v) b = zz_fs t p q σ b := by
  unfold zz_fs
  refine List.map_congr_left fun k _ => ?_
  have e : (zz_sf σ f a v).1 (100 * t + k) b = σ.1 (100 * t + k) b := by
    unfold zz_sf
    simp [h]
  rw [e]
theorem zz_fs_sf {t p q : Nat} {σ : zz_M} {f a : Nat} {v : Int} (ht : f / 100 = t) (hr : zz_rf f p q = none) : zz_fs t p q (zz_sf σ f a v) a = (zz_fs t p q σ a).set (f % 100) (.int (Int32.ofInt v)) := by
  have hf : 100 * t + f % 100 = f := by omega
  refine List.ext_getElem? fun j => ?_
  by_cases hj : j < zz_nf t
  · by_cases e : j = f % 100
    · subst e
      rw [List.getElem?_set_self (by rw [zz_fs_len]; exact hj), zz_fs_at hj, hf, hr]
      unfold zz_sf
      simp
    · rw [List.getElem?_set_ne (Ne.symm e), zz_fs_at hj, zz_fs_at hj]
      have e2 : (zz_sf σ f a v).1 (100 * t + j) a = σ.1 (100 * t + j) a := by
        unfold zz_sf
        have : 100 * t + j ≠ f := by omega
        simp [this]
      rw [e2]
  · rw [List.getElem?_eq_none (by rw [zz_fs_len]; omega), List.getElem?_eq_none (by rw [List.length_set, zz_fs_len]; omega)]
theorem zz_ws_len (X : zz_X) (σ : zz_M) : (zz_ws X σ).length = zz_n := by
  unfold zz_ws
  rw [List.length_map, List.length_range]
theorem zz_ce_sf_ne {X : zz_X} {σ : zz_M} {f a b : Nat} {v : Int} {K : Nat × Nat × Nat} (h : b ≠ a) : zz_ce X (zz_sf σ f a v) b K = zz_ce X σ b K := by
  unfold zz_ce
  rw [zz_fs_sf_ne h]
  rfl
theorem zz_ws_sf {X : zz_X} {σ : zz_M} {i t p q f : Nat} {v : Int} (hi : i < zz_n) (hK : zz_K i = (t, p, q)) (ht : t < 13) (hf : f / 100 = t) (hr : zz_rf f p q = none) :
    (zz_ws X σ).set i (X.b + i, .inr (t, (zz_fs t p q σ (X.b + i)).set (f % 100) (.int (Int32.ofInt v)))) = zz_ws X (zz_sf σ f (X.b + i) v) := by
  refine List.ext_getElem? fun j => ?_
  by_cases hj : j < zz_n
  · by_cases e : j = i
    · subst e
      rw [List.getElem?_set_self (by rw [zz_ws_len]; exact hj), zz_ws_at X _ hj, hK, zz_ce_o ht, zz_fs_sf hf hr]
    · rw [List.getElem?_set_ne (Ne.symm e), zz_ws_at X _ hj, zz_ws_at X _ hj, zz_ce_sf_ne (by omega)]
  · rw [List.getElem?_eq_none (by rw [List.length_set, zz_ws_len]; omega), List.getElem?_eq_none (by rw [zz_ws_len]; omega)]
theorem zz_i2l {x : Int} (h : zz_in x) : (Int32.ofInt x).toInt64 = Int64.ofInt x := by
  apply Int64.toInt_inj.mp
  have h2 : zz_inL x := by unfold zz_in at h; unfold zz_inL; omega
  rw [Jvm.Kit.i64_of_i32, zz_tid h, zz_Lbm h2]
theorem zz_lcmp_of {x y : Int} (hx : zz_inL x) (hy : zz_inL y) : lg_cmp (Int64.ofInt x) (Int64.ofInt y) = Int32.ofInt (zz_lcmp x y) := by
  have e1 : (Int64.ofInt y < Int64.ofInt x) ↔ y < x := by rw [Int64.lt_iff_toInt_lt, zz_Lbm hx, zz_Lbm hy]
  have e2 : (Int64.ofInt x = Int64.ofInt y) ↔ x = y := by rw [← Int64.toInt_inj, zz_Lbm hx, zz_Lbm hy]
  unfold lg_cmp zz_lcmp
  by_cases h1 : y < x
  · have h2 : ¬ x < y := by omega
    have h3 : ¬ x = y := by omega
    simp [e1, e2, h1, h2, h3]
  · by_cases h2 : x = y
    · subst h2
      simp
    · have h3 : x < y := by omega
      simp [e1, e2, h1, h2, h3]
theorem zz_lcmp_in (x y : Int) : zz_in (zz_lcmp x y) := by
  unfold zz_lcmp zz_in
  split
  · omega
  · split <;> omega
theorem zz_c1_ok {X : zz_X} {v : zz_V} (h : zz_c1 v = true) : (zz_toV X v).category = 1 := by
  rcases v with i | i | q | n
  · rfl
  · cases h
  · rfl
  · match n with
    | 0 => rfl
    | 1 => rfl
    | n + 2 => rfl
theorem zz_okI {X : zz_X} {x : Int} (h : zz_ok X (.inl x)) : zz_in x := h
theorem zz_all1 {P : zz_V → Prop} {a : zz_V} {r : List zz_V} (h1 : P a) (h2 : ∀ v ∈ r, P v) : ∀ v ∈ a :: r, P v := List.forall_mem_cons.mpr ⟨h1, h2⟩
/-- the kinds: what the fields and the places of arrays hold lies there, too -/
def zz_cb (i : Nat) : Bool := (List.range (zz_nf (zz_K i).1)).all (fun k => match zz_rf (100 * (zz_K i).1 + k) (zz_K i).2.1 (zz_K i).2.2 with
  | some r => decide (i + r.2.2.2 < zz_n) && decide (zz_K (i + r.2.2.2) = (r.1, r.2.1, r.2.2.1))
  | none => true)
theorem zz_cb0 : (List.range 150).all (fun i => !decide (i + 0 < zz_n) || zz_cb (i + 0)) = true := by decide +kernel
theorem zz_cb1 : (List.range 150).all (fun i => !decide (i + 150 < zz_n) || zz_cb (i + 150)) = true := by decide +kernel
theorem zz_cb2 : (List.range 150).all (fun i => !decide (i + 300 < zz_n) || zz_cb (i + 300)) = true := by decide +kernel
theorem zz_cb3 : (List.range 150).all (fun i => !decide (i + 450 < zz_n) || zz_cb (i + 450)) = true := by decide +kernel
theorem zz_cb4 : (List.range 150).all (fun i => !decide (i + 600 < zz_n) || zz_cb (i + 600)) = true := by decide +kernel
theorem zz_cb5 : (List.range 150).all (fun i => !decide (i + 750 < zz_n) || zz_cb (i + 750)) = true := by decide +kernel
theorem zz_cb6 : (List.range 150).all (fun i => !decide (i + 900 < zz_n) || zz_cb (i + 900)) = true := by decide +kernel
theorem zz_cb7 : (List.range 150).all (fun i => !decide (i + 1050 < zz_n) || zz_cb (i + 1050)) = true := by decide +kernel
theorem zz_cb_at {i : Nat} (hi : i < zz_n) : zz_cb i = true := by
  have key : ∀ (c : Nat), (List.range 150).all (fun i => !decide (i + c < zz_n) || zz_cb (i + c)) = true → c ≤ i → i < c + 150 → zz_cb i = true := by
    intro c h h1 h2
    have h3 := List.all_eq_true.mp h (i - c) (List.mem_range.mpr (by omega))
    have e : i - c + c = i := by omega
    rw [e] at h3
    simpa [hi] using h3
  have hi2 : i < 1127 := hi
  by_cases h0 : i < 150
  · exact key 0 zz_cb0 (by omega) (by omega)
  by_cases h1 : i < 300
  · exact key 150 zz_cb1 (by omega) (by omega)
  by_cases h2 : i < 450
  · exact key 300 zz_cb2 (by omega) (by omega)
  by_cases h3 : i < 600
  · exact key 450 zz_cb3 (by omega) (by omega)
  by_cases h4 : i < 750
  · exact key 600 zz_cb4 (by omega) (by omega)
  by_cases h5 : i < 900
  · exact key 750 zz_cb5 (by omega) (by omega)
  by_cases h6 : i < 1050
  · exact key 900 zz_cb6 (by omega) (by omega)
  exact key 1050 zz_cb7 (by omega) (by omega)
theorem zz_kinds_b : (List.range zz_n).all (fun i => (decide ((zz_K i).1 < 13) || (decide (50 ≤ (zz_K i).1) && decide ((zz_K i).1 < 56))) && decide ((zz_K i).2.1 < 100000)) = true := by decide +kernel
theorem zz_field_b : (List.range 13).all (fun t => (List.range (zz_nf t)).all (fun k => (zz_rf (100 * t + k) 0 0).isSome || decide (parseFieldDescriptor (zz_fT (100 * t + k)).2.2.1 = some (if zz_isZ (100 * t + k) = true then .boolean else .int)))) = true := by decide +kernel
theorem zz_rf_none {f p q : Nat} (h : zz_rf f p q = none) : zz_rf f 0 0 = none := by
  unfold zz_rf at h ⊢
  split at h <;> first | (cases h; done) | rfl
theorem zz_closed {i f t p q : Nat} {r : Nat × Nat × Nat × Nat} (hi : i < zz_n) (hK : zz_K i = (t, p, q)) (hf : f / 100 = t) (hk : f % 100 < zz_nf t) (hr : zz_rf f p q = some r) : i + r.2.2.2 < zz_n ∧ zz_K (i + r.2.2.2) = (r.1, r.2.1, r.2.2.1) := by
  have h1 := zz_cb_at hi
  unfold zz_cb at h1
  rw [hK] at h1
  have h2 := List.all_eq_true.mp h1 (f % 100) (List.mem_range.mpr hk)
  have e : 100 * t + f % 100 = f := by omega
  dsimp only at h2
  rw [e, hr] at h2
  simpa using h2
theorem zz_kindsOk {i t p q : Nat} (hi : i < zz_n) (hK : zz_K i = (t, p, q)) : (t < 13 ∨ (50 ≤ t ∧ t < 56)) ∧ p < 100000 := by
  have h1 := List.all_eq_true.mp zz_kinds_b i (List.mem_range.mpr hi)
  rw [hK] at h1
  simpa using h1
theorem zz_fieldTy {f : Nat} {p q : Nat} (h13 : f / 100 < 13) (hk : f % 100 < zz_nf (f / 100)) (hr : zz_rf f p q = none) : parseFieldDescriptor (zz_fT f).2.2.1 = some (if zz_isZ f = true then .boolean else .int) := by
  have h1 := List.all_eq_true.mp zz_field_b (f / 100) (List.mem_range.mpr h13)
  have h2 := List.all_eq_true.mp h1 (f % 100) (List.mem_range.mpr hk)
  have e : 100 * (f / 100) + f % 100 = f := by omega
  rw [e, zz_rf_none hr] at h2
  simpa using h2
theorem zz_gf_ok {f : Nat} {st st' : List zz_V} {σ σ' : zz_M} (h : zz_gf f st σ = some (st', σ')) : ∃ t p q a r v, st = zP t p q a :: r ∧ f / 100 = t ∧ σ = σ' ∧ st' = v :: r ∧ ((∃ w : Nat × Nat × Nat × Nat, zz_rf f p q = some w ∧ v = zP w.1 w.2.1 w.2.2.1 (a + w.2.2.2)) ∨ (zz_rf f p q = none ∧ v = zI (σ.1 f a))) := by
  unfold zz_gf at h
  split at h
  · rename_i t p q a r
    split at h
    · rename_i hb
      split at h
      · rename_i t' p' q' o hr
        cases h
        exact ⟨t, p, q, a, r, _, rfl, Nat.eq_of_beq_eq_true hb, rfl, rfl, Or.inl ⟨_, hr, rfl⟩⟩
      · rename_i hr
        cases h
        exact ⟨t, p, q, a, r, _, rfl, Nat.eq_of_beq_eq_true hb, rfl, rfl, Or.inr ⟨hr, rfl⟩⟩
    · cases h
  · cases h
theorem zz_pf_ok {f : Nat} {st st' : List zz_V} {σ σ' : zz_M} (h : zz_pf f st σ = some (st', σ')) : ∃ x t p q a, st = zI x :: zP t p q a :: st' ∧ f / 100 = t ∧ σ' = zz_sf σ f a x ∧ zz_rf f p q = none ∧ zz_isZ f = false := by
  unfold zz_pf at h
  split at h
  · rename_i x t p q a r
    split at h
    · rename_i hb
      split at h
      · cases h
      · rename_i hr
        split at h
        · cases h
        · rename_i hz
          cases h
          exact ⟨x, t, p, q, a, rfl, Nat.eq_of_beq_eq_true hb, rfl, hr, hz⟩
    · cases h
  · cases h
theorem zz_ofN {n : Nat} (h : n < 2147483648) : Int32.ofNat n = Int32.ofInt (n : Nat) := by
  apply Int32.toInt_inj.mp
  rw [show Int32.ofNat n = nI n from rfl, nI_toInt h, zz_tid (by unfold zz_in; omega)]
theorem zz_R_sf {X : zz_X} {σ : zz_M} {H H1 : Heap} {f a : Nat} {v : Int} (hR : zz_R X σ H) (hv : zz_in v) (hP : va_P X.D zz_cl (zz_ws X (zz_sf σ f a v)) H1) : zz_R X (zz_sf σ f a v) H1 := by
  refine ⟨hP, fun f' a' => ?_, hR.2.2⟩
  unfold zz_sf
  dsimp only
  split
  · exact hv
  · exact hR.2.1 f' a'
theorem zz_S_sf {X : zz_X} {σ : zz_M} {H : Heap} (h : zz_R X σ H) : va_D (zz_A X) (zz_ws X σ) := zz_ws_D X σ
section ZL
variable {p : Program} {l : Launch} {e : Env} {R : Room} {s : State} {m : MethodId} {args : Array Value} {below : List Frame} {meth : Method} {c : Code} {H : Heap} {locs : List Loc} {cells slots : Nat} {Q : State → Prop}
variable {cc : ByteArray} {pc : Nat} {ls : Array Slot} {rest : List Value}
theorem zz_ldcSW (hexec : p.tables.exec = Jvm.exec) (hb : c.code = cc) {own tx : String} {index q : Nat} (hown : s.vm.findClass own = some m.cls) (hZ : vk_R own index tx q s) (hdg : decode cc pc = .ok (.ldc_w index, 3))
    (k : W p l e R s m args below meth c H locs cells slots Q (F0 m (pc + 3) ls (.ref q :: rest))) : W p l e R s m args below meth c H locs cells slots Q (F0 m pc ls rest) := by
  intro T hT X
  obtain ⟨t, a1, b1⟩ := k T hT X
  exact ⟨t, X.ldcStringW hexec hown (text := tx) (a := q) hZ.1 hZ.2 (g := F0 m pc ls rest) rfl (by rw [hb]; exact hdg) t a1, b1⟩
end ZL
theorem zz_sr_at {X : zz_X} {s : State} {own : String} {i k : Nat} (h : zz_SR X s) (h1 : (zz_sr.getD k ("", 0, "")).1 = own) (h2 : (zz_sr.getD k ("", 0, "")).2.1 = i) (hk : k < zz_nS) : ∃ tx, vk_R own i tx (X.sa k) s := by
  have hl : k < zz_sr.length := hk
  have e : zz_sr[k]? = some (zz_sr.getD k ("", 0, "")) := by
    rw [List.getD_eq_getElem?_getD, List.getElem?_eq_getElem hl]
    rfl
  have := h.1 k _ e
  rw [h1, h2] at this
  exact ⟨_, this⟩
set_option maxHeartbeats 4000000 in
/-- the step, over the real machine -/
theorem zz_step_ok {X : zz_X} {d : Nat} {P : zz_P} {Z : State → Prop} {p : Program} {e : Env} {s : State} {m : MethodId} {args : Array Value} {below : List Frame} {meth : Method} {c : Code} {H : Heap} {locs : List Loc} {lm : Array Slot} {pc len j : Nat} {ins : Instr} {ts : List Nat} {ls st ls1 st1 : List zz_V} {σ σ1 : zz_M}
    (hs : zz_step ins ts ls st σ = some (ls1, st1, σ1)) (hdec : decode P.bytes pc = .ok (ins, len)) (hchk : zz_ck P.y.cls P.maxL P.code pc len ins ts = true) (hw : ∀ w ∈ zz_wd zz_mn P.y.cls (pc, ins, len, ts), w ∈ zz_tb)
    (hx : p.tables.exec = Jvm.exec) (hb : c.code = P.bytes) (hown : s.vm.findClass P.y.cls = some m.cls) (hts : ∀ w ∈ zz_tb, w.before args s = true) (hE : zz_E X s s.heap) (hS : va_S (zz_A X) s.heap H locs) (hR : zz_R X σ H) (hl : lv_has lm P.maxL (zz_lv X ls)) (hlen : ls.length = P.maxL) (hls : ∀ v ∈ ls, zz_ok X v) (hst : ∀ v ∈ st, zz_ok X v)
    (kk : ∀ (H' : Heap) (locs' : List Loc) (lm' : Array Slot), va_S (zz_A X) s.heap H' locs' → zz_R X σ1 H' → lv_has lm' P.maxL (zz_lv X ls1) → ls1.length = P.maxL → (∀ v ∈ ls1, zz_ok X v) → (∀ v ∈ st1, zz_ok X v) → W p X.l e (zz_room d) s m args below meth c H' locs' 0 0 Z (F0 m (pc + len) lm' (st1.map (zz_toV X)))) :
    W p X.l e (zz_room d) s m args below meth c H locs 0 0 Z (F0 m pc lm (st.map (zz_toV X))) := by
  cases ins
  case iadd =>
    dsimp only [zz_ck] at hchk
    have el := of_decide_eq_true hchk
    subst el
    simp only [zz_step] at hs
    split at hs
    · rename_i y x r
      cases hs
      obtain ⟨o1, o2, o3⟩ := zz_fm2 hst
      refine lv_iadd hx hb hdec ?_
      have k2 := kk H locs lm hS hR hl hlen hls (zz_all1 (P := zz_ok X) (zw_in _) o3)
      have ev : Int32.ofInt (zw (x + y)) = Int32.ofInt x + Int32.ofInt y := by rw [zw_of, Int32.ofInt_add]
      simp only [List.map_cons, zz_toV, ev] at k2
      exact k2
    · cases hs
  case isub =>
    dsimp only [zz_ck] at hchk
    have el := of_decide_eq_true hchk
    subst el
    simp only [zz_step] at hs
    split at hs
    · rename_i y x r
      cases hs
      obtain ⟨o1, o2, o3⟩ := zz_fm2 hst
      refine lv_isub hx hb hdec ?_
      have k2 := kk H locs lm hS hR hl hlen hls (zz_all1 (P := zz_ok X) (zw_in _) o3)
      have ev : Int32.ofInt (zw (x - y)) = Int32.ofInt x - Int32.ofInt y := by rw [zw_of, Int32.ofInt_sub]
      simp only [List.map_cons, zz_toV, ev] at k2
      exact k2
    · cases hs
  case imul =>
    dsimp only [zz_ck] at hchk
    have el := of_decide_eq_true hchk
    subst el
    simp only [zz_step] at hs
    split at hs
    · rename_i y x r
      cases hs
      obtain ⟨o1, o2, o3⟩ := zz_fm2 hst
      refine lv_imul hx hb hdec ?_
      have k2 := kk H locs lm hS hR hl hlen hls (zz_all1 (P := zz_ok X) (zw_in _) o3)
      have ev : Int32.ofInt (zw (x * y)) = Int32.ofInt x * Int32.ofInt y := by rw [zw_of, Int32.ofInt_mul]
      simp only [List.map_cons, zz_toV, ev] at k2
      exact k2
    · cases hs
  case iand =>
    dsimp only [zz_ck] at hchk
    have el := of_decide_eq_true hchk
    subst el
    simp only [zz_step] at hs
    split at hs
    · rename_i y x r
      cases hs
      obtain ⟨o1, o2, o3⟩ := zz_fm2 hst
      refine lv_iand hx hb hdec ?_
      have k2 := kk H locs lm hS hR hl hlen hls (zz_all1 (P := zz_ok X) (zz_i32 _) o3)
      have ev : Int32.ofInt (zz_and x y) = Int32.ofInt x &&& Int32.ofInt y := zz_b_of _ x y
      simp only [List.map_cons, zz_toV, ev] at k2
      exact k2
    · cases hs
  case ior =>
    dsimp only [zz_ck] at hchk
    have el := of_decide_eq_true hchk
    subst el
    simp only [zz_step] at hs
    split at hs
    · rename_i y x r
      cases hs
      obtain ⟨o1, o2, o3⟩ := zz_fm2 hst
      refine lv_ior hx hb hdec ?_
      have k2 := kk H locs lm hS hR hl hlen hls (zz_all1 (P := zz_ok X) (zz_i32 _) o3)
      have ev : Int32.ofInt (zz_or x y) = Int32.ofInt x ||| Int32.ofInt y := zz_b_of _ x y
      simp only [List.map_cons, zz_toV, ev] at k2
      exact k2
    · cases hs
  case ishr =>
    dsimp only [zz_ck] at hchk
    have el := of_decide_eq_true hchk
    subst el
    simp only [zz_step] at hs
    split at hs
    · rename_i y x r
      cases hs
      obtain ⟨o1, o2, o3⟩ := zz_fm2 hst
      refine lv_ishr hx hb hdec ?_
      have k2 := kk H locs lm hS hR hl hlen hls (zz_all1 (P := zz_ok X) (zz_i32 _) o3)
      have ev : Int32.ofInt (zz_shr x y) = Int32.ofInt x >>> (Int32.ofInt y &&& 31) := zz_b_of _ x y
      simp only [List.map_cons, zz_toV, ev] at k2
      exact k2
    · cases hs
  case iushr =>
    dsimp only [zz_ck] at hchk
    have el := of_decide_eq_true hchk
    subst el
    simp only [zz_step] at hs
    split at hs
    · rename_i y x r
      cases hs
      obtain ⟨o1, o2, o3⟩ := zz_fm2 hst
      refine lv_iushr hx hb hdec (v := Int32.ofInt (zz_ushr x y)) (by unfold zz_ushr; rw [zz_b_of]) ?_
      have k2 := kk H locs lm hS hR hl hlen hls (zz_all1 (P := zz_ok X) (zz_i32 _) o3)
      have ev : True := trivial
      simp only [List.map_cons, zz_toV, ev] at k2
      exact k2
    · cases hs
  case lsub =>
    dsimp only [zz_ck] at hchk
    have el := of_decide_eq_true hchk
    subst el
    simp only [zz_step] at hs
    split at hs
    · rename_i y x r
      cases hs
      obtain ⟨o1, o2, o3⟩ := zz_fm2 hst
      refine lv_lsub hx hb hdec ?_
      have k2 := kk H locs lm hS hR hl hlen hls (zz_all1 (P := zz_ok X) (zz_i64 _) o3)
      have ev : Int64.ofInt (zz_lsub x y) = Int64.ofInt x - Int64.ofInt y := zz_l_of _ x y
      simp only [List.map_cons, zz_toV, ev] at k2
      exact k2
    · cases hs
  case land =>
    dsimp only [zz_ck] at hchk
    have el := of_decide_eq_true hchk
    subst el
    simp only [zz_step] at hs
    split at hs
    · rename_i y x r
      cases hs
      obtain ⟨o1, o2, o3⟩ := zz_fm2 hst
      refine lv_land hx hb hdec ?_
      have k2 := kk H locs lm hS hR hl hlen hls (zz_all1 (P := zz_ok X) (zz_i64 _) o3)
      have ev : Int64.ofInt (zz_land x y) = Int64.ofInt x &&& Int64.ofInt y := zz_l_of _ x y
      simp only [List.map_cons, zz_toV, ev] at k2
      exact k2
    · cases hs
  case lshl =>
    dsimp only [zz_ck] at hchk
    have el := of_decide_eq_true hchk
    subst el
    simp only [zz_step] at hs
    split at hs
    · rename_i y x r
      cases hs
      obtain ⟨o1, o2, o3⟩ := zz_fm2 hst
      refine lv_lshl hx hb hdec (v := Int64.ofInt (zz_lshl x y)) (by unfold zz_lshl; rw [Int64.ofInt_toInt]) ?_
      have k2 := kk H locs lm hS hR hl hlen hls (zz_all1 (P := zz_ok X) (zz_i64 _) o3)
      have ev : True := trivial
      simp only [List.map_cons, zz_toV, ev] at k2
      exact k2
    · cases hs
  case lshr =>
    dsimp only [zz_ck] at hchk
    have el := of_decide_eq_true hchk
    subst el
    simp only [zz_step] at hs
    split at hs
    · rename_i y x r
      cases hs
      obtain ⟨o1, o2, o3⟩ := zz_fm2 hst
      refine lv_lshr hx hb hdec (v := Int64.ofInt (zz_lshr x y)) (by unfold zz_lshr; rw [Int64.ofInt_toInt]) ?_
      have k2 := kk H locs lm hS hR hl hlen hls (zz_all1 (P := zz_ok X) (zz_i64 _) o3)
      have ev : True := trivial
      simp only [List.map_cons, zz_toV, ev] at k2
      exact k2
    · cases hs
  case lushr =>
    dsimp only [zz_ck] at hchk
    have el := of_decide_eq_true hchk
    subst el
    simp only [zz_step] at hs
    split at hs
    · rename_i y x r
      cases hs
      obtain ⟨o1, o2, o3⟩ := zz_fm2 hst
      refine lv_lushr hx hb hdec (v := Int64.ofInt (zz_lushr x y)) (by unfold zz_lushr; rw [Int64.ofInt_toInt]) ?_
      have k2 := kk H locs lm hS hR hl hlen hls (zz_all1 (P := zz_ok X) (zz_i64 _) o3)
      have ev : True := trivial
      simp only [List.map_cons, zz_toV, ev] at k2
      exact k2
    · cases hs
  case lcmp =>
    dsimp only [zz_ck] at hchk
    have el := of_decide_eq_true hchk
    subst el
    simp only [zz_step] at hs
    split at hs
    · rename_i y x r
      cases hs
      obtain ⟨o1, o2, o3⟩ := zz_fm2 hst
      refine W.lcmp hx hb hdec ?_
      have k2 := kk H locs lm hS hR hl hlen hls (zz_all1 (P := zz_ok X) (zz_lcmp_in _ _) o3)
      have ev : Int32.ofInt (zz_lcmp x y) = lg_cmp (Int64.ofInt x) (Int64.ofInt y) := (zz_lcmp_of o2 o1).symm
      simp only [List.map_cons, zz_toV, ev] at k2
      exact k2
    · cases hs
  case i2b =>
    dsimp only [zz_ck] at hchk
    have el := of_decide_eq_true hchk
    subst el
    simp only [zz_step] at hs
    split at hs
    · rename_i x r
      cases hs
      obtain ⟨o1, o3⟩ := List.forall_mem_cons.mp hst
      refine lv_i2b hx hb hdec (v := Int32.ofInt (zz_i2b x)) (by unfold zz_i2b; rw [Int32.ofInt_toInt]) ?_
      exact kk H locs lm hS hR hl hlen hls (zz_all1 (P := zz_ok X) (zz_i32 _) o3)
    · cases hs
  case i2l =>
    dsimp only [zz_ck] at hchk
    have el := of_decide_eq_true hchk
    subst el
    simp only [zz_step] at hs
    split at hs
    · rename_i x r
      cases hs
      obtain ⟨o1, o3⟩ := List.forall_mem_cons.mp hst
      refine lv_i2l hx hb hdec (v := Int64.ofInt x) (zz_i2l o1) ?_
      exact kk H locs lm hS hR hl hlen hls (zz_all1 (P := zz_ok X) (show zz_inL x by have := zz_okI o1; unfold zz_in at this; unfold zz_inL; omega) o3)
    · cases hs
  case iload_n k =>
    dsimp only [zz_ck] at hchk
    have el := of_decide_eq_true hchk
    subst el
    simp only [zz_step, zz_ldI] at hs
    split at hs
    · rename_i i hk
      cases hs
      refine lv_iload_n hx hb hdec rfl (zz_lv_at hl hk (by intro z; cases z)) ?_
      exact kk H locs lm hS hR hl hlen hls (zz_all1 (P := zz_ok X) (hls _ (List.mem_of_getElem? hk)) hst)
    · cases hs
  case iload k =>
    dsimp only [zz_ck] at hchk
    have el := of_decide_eq_true hchk
    subst el
    simp only [zz_step, zz_ldI] at hs
    split at hs
    · rename_i i hk
      cases hs
      refine lv_iload hx hb hdec (zz_lv_at hl hk (by intro z; cases z)) ?_
      exact kk H locs lm hS hR hl hlen hls (zz_all1 (P := zz_ok X) (hls _ (List.mem_of_getElem? hk)) hst)
    · cases hs
  case lload_n k =>
    dsimp only [zz_ck] at hchk
    have el := of_decide_eq_true hchk
    subst el
    simp only [zz_step, zz_ldL] at hs
    split at hs
    · rename_i i hk
      cases hs
      refine lv_lload_n hx hb hdec rfl (zz_lv_at hl hk (by intro z; cases z)) ?_
      exact kk H locs lm hS hR hl hlen hls (zz_all1 (P := zz_ok X) (hls _ (List.mem_of_getElem? hk)) hst)
    · cases hs
  case lload k =>
    dsimp only [zz_ck] at hchk
    have el := of_decide_eq_true hchk
    subst el
    simp only [zz_step, zz_ldL] at hs
    split at hs
    · rename_i i hk
      cases hs
      refine lv_lload hx hb hdec (zz_lv_at hl hk (by intro z; cases z)) ?_
      exact kk H locs lm hS hR hl hlen hls (zz_all1 (P := zz_ok X) (hls _ (List.mem_of_getElem? hk)) hst)
    · cases hs
  case aload_n k =>
    dsimp only [zz_ck] at hchk
    have el := of_decide_eq_true hchk
    subst el
    simp only [zz_step, zz_ldA] at hs
    split at hs
    · rename_i i hk
      cases hs
      refine lv_aload_n hx hb hdec rfl (zz_lv_at hl hk (by intro z; cases z)) ?_
      exact kk H locs lm hS hR hl hlen hls (zz_all1 (P := zz_ok X) (hls _ (List.mem_of_getElem? hk)) hst)
    · rename_i hk
      cases hs
      refine lv_aload_nN hx hb hdec rfl (zz_lv_at hl hk (by intro z; cases z)) ?_
      exact kk H locs lm hS hR hl hlen hls (zz_all1 (P := zz_ok X) (hls _ (List.mem_of_getElem? hk)) hst)
    · rename_i i hk
      cases hs
      refine lv_aload_n hx hb hdec rfl (zz_lv_at hl hk (by intro z; cases z)) ?_
      exact kk H locs lm hS hR hl hlen hls (zz_all1 (P := zz_ok X) (hls _ (List.mem_of_getElem? hk)) hst)
    · cases hs
  case aload k =>
    dsimp only [zz_ck] at hchk
    have el := of_decide_eq_true hchk
    subst el
    simp only [zz_step, zz_ldA] at hs
    split at hs
    · rename_i i hk
      cases hs
      refine lv_aload hx hb hdec (zz_lv_at hl hk (by intro z; cases z)) ?_
      exact kk H locs lm hS hR hl hlen hls (zz_all1 (P := zz_ok X) (hls _ (List.mem_of_getElem? hk)) hst)
    · rename_i hk
      cases hs
      refine lv_aloadN hx hb hdec (zz_lv_at hl hk (by intro z; cases z)) ?_
      exact kk H locs lm hS hR hl hlen hls (zz_all1 (P := zz_ok X) (hls _ (List.mem_of_getElem? hk)) hst)
    · rename_i i hk
      cases hs
      refine lv_aload hx hb hdec (zz_lv_at hl hk (by intro z; cases z)) ?_
      exact kk H locs lm hS hR hl hlen hls (zz_all1 (P := zz_ok X) (hls _ (List.mem_of_getElem? hk)) hst)
    · cases hs
  case istore_n k =>
    dsimp only [zz_ck] at hchk
    have el := of_decide_eq_true hchk
    subst el
    simp only [zz_step, zz_stI] at hs
    split at hs
    · rename_i i r
      split at hs
      · rename_i ls' hk
        cases hs
        obtain ⟨o1, o3⟩ := List.forall_mem_cons.mp hst
        have hkl : (k : Nat) < ls.length := by
          unfold zz_st at hk
          by_cases h : (k : Nat) < ls.length
          · exact h
          · rw [decide_eq_false h] at hk; cases hk
        refine lv_istore_n hx hb hdec rfl hl (by rw [← hlen]; exact hkl) rfl (fun lm' hl' => ?_)
        obtain ⟨q1, q2, -, q4⟩ := zz_lv_set hk hl'
        exact kk H locs lm' hS hR q1 (q2.trans hlen) (fun w hw => (q4 w hw).elim (fun z => by rw [z]; exact o1) (hls w)) o3
      · cases hs
    · cases hs
  case istore k =>
    dsimp only [zz_ck] at hchk
    have el := of_decide_eq_true hchk
    subst el
    simp only [zz_step, zz_stI] at hs
    split at hs
    · rename_i i r
      split at hs
      · rename_i ls' hk
        cases hs
        obtain ⟨o1, o3⟩ := List.forall_mem_cons.mp hst
        have hkl : (k : Nat) < ls.length := by
          unfold zz_st at hk
          by_cases h : (k : Nat) < ls.length
          · exact h
          · rw [decide_eq_false h] at hk; cases hk
        refine lv_istore hx hb hdec hl (by rw [← hlen]; exact hkl) rfl (fun lm' hl' => ?_)
        obtain ⟨q1, q2, -, q4⟩ := zz_lv_set hk hl'
        exact kk H locs lm' hS hR q1 (q2.trans hlen) (fun w hw => (q4 w hw).elim (fun z => by rw [z]; exact o1) (hls w)) o3
      · cases hs
    · cases hs
  case astore_n k =>
    dsimp only [zz_ck] at hchk
    have el := of_decide_eq_true hchk
    subst el
    simp only [zz_step, zz_stA] at hs
    split at hs
    · rename_i i r
      split at hs
      · rename_i ls' hk
        cases hs
        obtain ⟨o1, o3⟩ := List.forall_mem_cons.mp hst
        have hkl : (k : Nat) < ls.length := by
          unfold zz_st at hk
          by_cases h : (k : Nat) < ls.length
          · exact h
          · rw [decide_eq_false h] at hk; cases hk
        refine lv_astore_n hx hb hdec rfl hl (by rw [← hlen]; exact hkl) rfl (fun lm' hl' => ?_)
        obtain ⟨q1, q2, -, q4⟩ := zz_lv_set hk hl'
        exact kk H locs lm' hS hR q1 (q2.trans hlen) (fun w hw => (q4 w hw).elim (fun z => by rw [z]; exact o1) (hls w)) o3
      · cases hs
    · rename_i r
      split at hs
      · rename_i ls' hk
        cases hs
        obtain ⟨o1, o3⟩ := List.forall_mem_cons.mp hst
        have hkl : (k : Nat) < ls.length := by
          unfold zz_st at hk
          by_cases h : (k : Nat) < ls.length
          · exact h
          · rw [decide_eq_false h] at hk; cases hk
        refine lv_astore_nN hx hb hdec rfl hl (by rw [← hlen]; exact hkl) rfl (fun lm' hl' => ?_)
        obtain ⟨q1, q2, -, q4⟩ := zz_lv_set hk hl'
        exact kk H locs lm' hS hR q1 (q2.trans hlen) (fun w hw => (q4 w hw).elim (fun z => by rw [z]; exact o1) (hls w)) o3
      · cases hs
    · cases hs
  case astore k =>
    dsimp only [zz_ck] at hchk
    have el := of_decide_eq_true hchk
    subst el
    simp only [zz_step, zz_stA] at hs
    split at hs
    · rename_i i r
      split at hs
      · rename_i ls' hk
        cases hs
        obtain ⟨o1, o3⟩ := List.forall_mem_cons.mp hst
        have hkl : (k : Nat) < ls.length := by
          unfold zz_st at hk
          by_cases h : (k : Nat) < ls.length
          · exact h
          · rw [decide_eq_false h] at hk; cases hk
        refine lv_astore hx hb hdec hl (by rw [← hlen]; exact hkl) rfl (fun lm' hl' => ?_)
        obtain ⟨q1, q2, -, q4⟩ := zz_lv_set hk hl'
        exact kk H locs lm' hS hR q1 (q2.trans hlen) (fun w hw => (q4 w hw).elim (fun z => by rw [z]; exact o1) (hls w)) o3
      · cases hs
    · rename_i r
      split at hs
      · rename_i ls' hk
        cases hs
        obtain ⟨o1, o3⟩ := List.forall_mem_cons.mp hst
        have hkl : (k : Nat) < ls.length := by
          unfold zz_st at hk
          by_cases h : (k : Nat) < ls.length
          · exact h
          · rw [decide_eq_false h] at hk; cases hk
        refine lv_astoreN hx hb hdec hl (by rw [← hlen]; exact hkl) rfl (fun lm' hl' => ?_)
        obtain ⟨q1, q2, -, q4⟩ := zz_lv_set hk hl'
        exact kk H locs lm' hS hR q1 (q2.trans hlen) (fun w hw => (q4 w hw).elim (fun z => by rw [z]; exact o1) (hls w)) o3
      · cases hs
    · cases hs
  case iconst n =>
    simp only [zz_ck, Bool.and_eq_true, decide_eq_true_eq] at hchk
    obtain ⟨⟨el, e1⟩, e2⟩ := hchk
    subst el
    cases hs
    refine lv_iconst hx hb hdec rfl ?_
    exact kk H locs lm hS hR hl hlen hls (zz_all1 (P := zz_ok X) (show zz_in n by unfold zz_in; omega) hst)
  case bipush n =>
    simp only [zz_ck, Bool.and_eq_true, decide_eq_true_eq] at hchk
    obtain ⟨⟨⟨el, e0⟩, e1⟩, e2⟩ := hchk
    subst el
    cases hs
    refine lv_bipush hx hb hdec e0 ?_
    exact kk H locs lm hS hR hl hlen hls (zz_all1 (P := zz_ok X) (show zz_in n by unfold zz_in; omega) hst)
  case sipush n =>
    simp only [zz_ck, Bool.and_eq_true, decide_eq_true_eq] at hchk
    obtain ⟨⟨⟨el, e0⟩, e1⟩, e2⟩ := hchk
    subst el
    cases hs
    refine lv_sipush hx hb hdec e0 ?_
    exact kk H locs lm hS hR hl hlen hls (zz_all1 (P := zz_ok X) (show zz_in n by unfold zz_in; omega) hst)
  case lconst n =>
    dsimp only [zz_ck] at hchk
    have el := of_decide_eq_true hchk
    subst el
    cases hs
    refine lv_lconst hx hb hdec (v := Int64.ofInt (n : Nat)) (match n with | 0 => rfl | 1 => rfl) ?_
    exact kk H locs lm hS hR hl hlen hls (zz_all1 (P := zz_ok X) (show zz_inL ((n : Nat) : Int) by have := n.isLt; unfold zz_inL; omega) hst)
  case aconst_null =>
    dsimp only [zz_ck] at hchk
    have el := of_decide_eq_true hchk
    subst el
    cases hs
    refine lv_null hx hb hdec ?_
    exact kk H locs lm hS hR hl hlen hls (zz_all1 (P := zz_ok X) (Or.inl (by omega)) hst)
  case iinc k n =>
    simp only [zz_ck, Bool.and_eq_true, decide_eq_true_eq] at hchk
    obtain ⟨⟨⟨el, e0⟩, e1⟩, e2⟩ := hchk
    subst el
    simp only [zz_step] at hs
    split at hs
    · rename_i x hk
      split at hs
      · rename_i ls' hk2
        cases hs
        obtain ⟨kx, hkx⟩ := List.getElem?_of_mem (zz_lv_mem (X := X) hk (by intro z; cases z))
        refine lv_iinc hx hb hdec hl (v := Int32.ofInt (zw (x + n))) hkx (by rw [zw_of, Int32.ofInt_add]) e0 rfl (fun lm' hl' => ?_)
        obtain ⟨q1, q2, -, q4⟩ := zz_lv_set hk2 hl'
        exact kk H locs lm' hS hR q1 (q2.trans hlen) (fun w hw => (q4 w hw).elim (fun z => by rw [z]; exact zw_in _) (hls w)) hst
      · cases hs
    · cases hs
  case dup =>
    dsimp only [zz_ck] at hchk
    have el := of_decide_eq_true hchk
    subst el
    simp only [zz_step] at hs
    split at hs
    · rename_i v r
      split at hs
      · rename_i hc
        cases hs
        obtain ⟨o1, o3⟩ := List.forall_mem_cons.mp hst
        refine lv_dup hx hb hdec (zz_c1_ok hc) ?_
        exact kk H locs lm hS hR hl hlen hls (zz_all1 (P := zz_ok X) o1 hst)
      · cases hs
    · cases hs
  case dup2 =>
    dsimp only [zz_ck] at hchk
    have el := of_decide_eq_true hchk
    subst el
    simp only [zz_step] at hs
    split at hs
    · rename_i v w r
      split at hs
      · rename_i hc hd
        cases hs
        obtain ⟨o1, o2, o3⟩ := zz_fm2 hst
        refine lv_dup2_11 hx hb hdec (zz_c1_ok hc) (zz_c1_ok hd) ?_
        exact kk H locs lm hS hR hl hlen hls (zz_all1 (P := zz_ok X) o1 (zz_all1 (P := zz_ok X) o2 hst))
      · cases hs
    · cases hs
  case pop =>
    dsimp only [zz_ck] at hchk
    have el := of_decide_eq_true hchk
    subst el
    simp only [zz_step] at hs
    split at hs
    · rename_i v r
      split at hs
      · rename_i hc
        cases hs
        obtain ⟨o1, o3⟩ := List.forall_mem_cons.mp hst
        refine lv_pop hx hb hdec (zz_c1_ok hc) ?_
        exact kk H locs lm hS hR hl hlen hls o3
      · cases hs
    · cases hs
  case getfield i =>
    simp only [zz_ck, Bool.and_eq_true, decide_eq_true_eq] at hchk
    obtain ⟨⟨el, h13⟩, hnf⟩ := hchk
    subst el
    simp only [zz_step] at hs
    split at hs
    · rename_i f ts'
      have h13 : f / 100 < 13 := h13
      have hnf : f % 100 < zz_nf (f / 100) := hnf
      split at hs
      · rename_i st' σ' hg
        cases hs
        obtain ⟨t, p1, q1, a, r, v, rfl, ht, rfl, rfl, hv⟩ := zz_gf_ok hg
        obtain ⟨o1, o3⟩ := List.forall_mem_cons.mp hst
        obtain ⟨i0, hi0, ha, hK⟩ := o1
        dsimp only at ha hK
        subst ha
        subst ht
        obtain ⟨C, T, ty, hc, hin, hty, hnm⟩ := zz_cl_at h13
        have hlink := hts _ (hw (.fieldLink P.y.cls i (zz_fT f).1 (zz_fT f).2.1 (zz_fT f).2.2.1) List.mem_cons_self)
        rw [zz_fT_at hc] at hlink
        have hat := zz_ws_at X σ hi0
        rw [hK, zz_ce_o h13] at hat
        have hf : 100 * (f / 100) + f % 100 = f := by omega
        have hv2 : (zz_fs (f / 100) p1 q1 σ (X.b + i0))[f % 100]? = some (zz_toV X v) := by
          rw [zz_fs_at hnf, hf]
          rcases hv with ⟨w, h1, rfl⟩ | ⟨h1, rfl⟩
          · rw [h1]; rfl
          · rw [h1]; rfl
        refine va_get (D := X.D) (cl := zz_cl) (ws := zz_ws X σ) (ci := f / 100) (v := zz_toV X v) hx hb hts hin hown hE.1 hR.1 i0 hat hc (f % 100) hnf hlink (fun _ h => h) hv2 hdec ?_
        refine kk H locs lm hS hR hl hlen hls (zz_all1 (P := zz_ok X) ?_ o3)
        rcases hv with ⟨w, h1, rfl⟩ | ⟨h1, rfl⟩
        · obtain ⟨g1, g2⟩ := zz_closed hi0 hK rfl hnf h1
          exact ⟨i0 + w.2.2.2, g1, by dsimp only; omega, g2⟩
        · exact hR.2.1 _ _
      · cases hs
    · cases hs
  case putfield i =>
    simp only [zz_ck, Bool.and_eq_true, decide_eq_true_eq] at hchk
    obtain ⟨⟨⟨el, h13⟩, hnf⟩, hfin⟩ := hchk
    subst el
    simp only [zz_step] at hs
    split at hs
    · rename_i f ts'
      have h13 : f / 100 < 13 := h13
      have hnf : f % 100 < zz_nf (f / 100) := hnf
      have hfin : (zz_fT f).2.2.2 = false := hfin
      split at hs
      · rename_i st' σ' hg
        cases hs
        obtain ⟨x, t, p1, q1, a, rfl, ht, rfl, hr, hz⟩ := zz_pf_ok hg
        obtain ⟨o0, o1, o3⟩ := zz_fm2 hst
        obtain ⟨i0, hi0, ha, hK⟩ := o1
        dsimp only at ha hK
        subst ha
        subst ht
        obtain ⟨C, T, ty, hc, hin, hty, hnm⟩ := zz_cl_at h13
        have hlink := hts _ (hw (.fieldLink P.y.cls i (zz_fT f).1 (zz_fT f).2.1 (zz_fT f).2.2.1) List.mem_cons_self)
        have hpty := zz_fieldTy h13 hnf hr
        rw [hz] at hpty
        rw [zz_fT_at hc] at hlink hfin hpty
        have hat := zz_ws_at X σ hi0
        rw [hK, zz_ce_o h13] at hat
        refine va_put (D := X.D) (cl := zz_cl) (ws := zz_ws X σ) (ci := f / 100) (v := .int (Int32.ofInt x)) (ty := .int) hx hb hts hin ty hty hnm hown hE.1 hR.1 (zz_ws_D X σ) hS i0 hat hc (f % 100) hnf hlink (fun _ h => h) hfin hpty (vp_nar_int _) rfl (by rw [zz_fs_len]; exact hnf) hdec (fun H1 locs1 hP1 hD1 hS1 => ?_)
        rw [zz_ws_sf hi0 hK h13 rfl hr] at hP1
        exact kk H1 locs1 lm hS1 (zz_R_sf hR o0 hP1) hl hlen hls o3
      · cases hs
    · cases hs
  case arraylength =>
    dsimp only [zz_ck] at hchk
    have el := of_decide_eq_true hchk
    subst el
    simp only [zz_step] at hs
    split at hs
    · rename_i t p1 q1 a r
      split at hs
      · rename_i hb50
        cases hs
        obtain ⟨o1, o3⟩ := List.forall_mem_cons.mp hst
        obtain ⟨i0, hi0, ha, hK⟩ := o1
        dsimp only at ha hK
        subst ha
        obtain ⟨ht, hp⟩ := zz_kindsOk hi0 hK
        have h50 : 50 ≤ t := Nat.le_of_ble_eq_true hb50
        have hat := zz_ws_at X σ hi0
        rw [hK] at hat
        have hce : ∃ x : vp_A, zz_ce X σ (X.b + i0) (t, p1, q1) = .inl (X.dA (t - 50), x) ∧ x.1 = p1 := by
          unfold zz_ce
          rw [if_neg (by dsimp only; omega)]
          split
          · exact ⟨_, rfl, rfl⟩
          · exact ⟨_, rfl, rfl⟩
        obtain ⟨xa, e1, e2⟩ := hce
        rw [e1] at hat
        have hty : ∃ ty, (zz_tys X)[t - 50]? = some (X.dA (t - 50), ty) := by
          have ht2 : t - 50 < 6 := by omega
          generalize t - 50 = k at ht2
          match k, ht2 with
          | 0, _ => exact ⟨_, rfl⟩
          | 1, _ => exact ⟨_, rfl⟩
          | 2, _ => exact ⟨_, rfl⟩
          | 3, _ => exact ⟨_, rfl⟩
          | 4, _ => exact ⟨_, rfl⟩
          | 5, _ => exact ⟨_, rfl⟩
          | n + 6, h => omega
        obtain ⟨ty, hty⟩ := hty
        refine va_alen (D := X.D) (cl := zz_cl) (ws := zz_ws X σ) hx hb hE.1 hR.1 i0 (t - 50) hat hty (v := Int32.ofInt (p1 : Nat)) (by rw [e2]; exact zz_ofN (by omega)) hdec ?_
        exact kk H locs lm hS hR hl hlen hls (zz_all1 (P := zz_ok X) (show zz_in ((p1 : Nat) : Int) by unfold zz_in; omega) o3)
      · cases hs
    · cases hs
  case ldc i =>
    dsimp only [zz_ck] at hchk
    rw [Bool.and_eq_true] at hchk
    obtain ⟨el, hchk⟩ := hchk
    have el := of_decide_eq_true el
    subst el
    split at hchk
    · rename_i k
      simp only [Bool.and_eq_true, decide_eq_true_eq] at hchk
      obtain ⟨⟨h1, h2⟩, h3⟩ := hchk
      cases hs
      obtain ⟨tx, hZ⟩ := zz_sr_at hE.2.2.1 h1 h2 h3
      refine va_ldcS hx hb hown hZ hdec ?_
      exact kk H locs lm hS hR hl hlen hls (zz_all1 (P := zz_ok X) (Or.inr (by omega)) hst)
    · rename_i v
      have hv := of_decide_eq_true hchk
      cases hs
      have hcon := hts _ (hw (.constant P.y.cls i (Int32.ofInt (v : Nat))) List.mem_cons_self)
      refine lv_ldc hx hb hown hcon hdec ?_
      exact kk H locs lm hS hR hl hlen hls (zz_all1 (P := zz_ok X) (show zz_in ((v : Nat) : Int) by unfold zz_in; omega) hst)
    · cases hchk
  case ldc_w i =>
    dsimp only [zz_ck] at hchk
    rw [Bool.and_eq_true] at hchk
    obtain ⟨el, hchk⟩ := hchk
    have el := of_decide_eq_true el
    subst el
    split at hchk
    · rename_i k
      simp only [Bool.and_eq_true, decide_eq_true_eq] at hchk
      obtain ⟨⟨h1, h2⟩, h3⟩ := hchk
      cases hs
      obtain ⟨tx, hZ⟩ := zz_sr_at hE.2.2.1 h1 h2 h3
      refine zz_ldcSW hx hb hown hZ hdec ?_
      exact kk H locs lm hS hR hl hlen hls (zz_all1 (P := zz_ok X) (Or.inr (by omega)) hst)
    · rename_i v
      have hv := of_decide_eq_true hchk
      cases hs
      have hcon := hts _ (hw (.constant P.y.cls i (Int32.ofInt (v : Nat))) List.mem_cons_self)
      refine lv_ldcw hx hb hown hcon hdec ?_
      exact kk H locs lm hS hR hl hlen hls (zz_all1 (P := zz_ok X) (show zz_in ((v : Nat) : Int) by unfold zz_in; omega) hst)
    · cases hchk
  case ldc2_w i =>
    simp only [zz_ck, Bool.and_eq_true, decide_eq_true_eq] at hchk
    obtain ⟨el, hv⟩ := hchk
    subst el
    simp only [zz_step] at hs
    split at hs
    · rename_i v ts'
      cases hs
      have hv : v < 1000000 := hv
      have hcon := hts _ (hw (.constantLong P.y.cls i (Int64.ofInt (v : Nat))) List.mem_cons_self)
      refine lv_ldc2 hx hb hown hcon hdec ?_
      exact kk H locs lm hS hR hl hlen hls (zz_all1 (P := zz_ok X) (show zz_inL ((v : Nat) : Int) by unfold zz_inL; omega) hst)
    · cases hs
  all_goals (cases hs)
end
section
/-! THE ROWS over zz_G: a step, a jump, a branch, a switch, arrays, a call, an end. -/
theorem zz_row {P : zz_P} {j : Nat} {e : zz_C} (hok : zz_okP P) (h : P.code[j]? = some e) : decode P.bytes e.1 = .ok (e.2.1, e.2.2.1) ∧ (zz_end e.2.1 = false → zz_pc P (j + 1) = e.1 + e.2.2.1) ∧ zz_ck P.y.cls P.maxL P.code e.1 e.2.2.1 e.2.1 e.2.2.2 = true ∧ (∀ w ∈ zz_wd zz_mn P.y.cls e, w ∈ zz_tb) ∧ zz_pc P j = e.1 := by
  have h1 := List.all_eq_true.mp hok.1 (e, j) (List.mk_mem_zipIdx_iff_getElem?.mpr h)
  unfold zz_dc at h1
  simp only [Bool.and_eq_true] at h1
  obtain ⟨⟨h2, h3⟩, h4⟩ := h1
  refine ⟨of_decide_eq_true h2, fun he => ?_, h4, fun w hw => hok.2 w (List.mem_flatMap.mpr ⟨e, List.mem_of_getElem? h, hw⟩), by unfold zz_pc; rw [h]⟩
  unfold zz_pc
  cases hn : P.code[j + 1]? with
  | none =>
    rw [hn] at h3
    dsimp only at h3
    rw [he] at h3
    cases h3
  | some e' =>
    rw [hn] at h3
    exact of_decide_eq_true h3
theorem zz_tgt {P : zz_P} {pc t : Nat} {off : Int} (h : zz_tg P.code pc off t = true) : (pc : Int) + off = (zz_pc P t : Int) := by
  unfold zz_tg at h
  unfold zz_pc
  cases ht : P.code[t]? with
  | none => rw [ht] at h; cases h
  | some e => rw [ht] at h; exact of_decide_eq_true h
theorem zz_step_end {ins : Instr} {ts : List Nat} {ls st : List zz_V} {σ : zz_M} {r : List zz_V × List zz_V × zz_M} (h : zz_step ins ts ls st σ = some r) : zz_end ins = false := by
  cases ins <;> first | rfl | (cases h; done)
section ZR
variable {X : zz_X} {d : Nat} {P : zz_P} {j : Nat} {ls st : List zz_V} {σ : zz_M} {Post : Option zz_V → zz_M → Prop}
/-- a step -/
theorem zz_gs {j' : Nat} {ls' st' : List zz_V} {σ' : zz_M} (h : zz_s1 P.code j ls st σ = some (j', ls', st', σ')) (k : zz_G X d P j' ls' st' σ' Post) : zz_G X d P j ls st σ Post := by
  intro p e s m args below meth c H locs lm hok hx hb hml hr hlk hown hts hE hS hR hl hlen hls hst
  unfold zz_s1 at h
  cases he : P.code[j]? with
  | none => rw [he] at h; cases h
  | some en =>
    rw [he] at h
    dsimp only at h
    cases hs : zz_step en.2.1 en.2.2.2 ls st σ with
    | none => rw [hs] at h; cases h
    | some r =>
      obtain ⟨ls1, st1, σ1⟩ := r
      rw [hs] at h
      cases h
      obtain ⟨r1, r2, r3, r4, r5⟩ := zz_row hok he
      rw [r5]
      refine zz_step_ok (j := j) hs r1 r3 r4 hx hb hown hts hE hS hR hl hlen hls hst (fun H' locs' lm' hS' hR' hl' hlen' hls' hst' => ?_)
      rw [← r2 (zz_step_end hs)]
      exact k p e s m args below meth c H' locs' lm' hok hx hb hml hr hlk hown hts hE hS' hR' hl' hlen' hls' hst'
def zz_jc : Instr → List zz_V → Option (Bool × List zz_V)
  | .goto _, st => some (true, st)
  | .ifnull _, .inr (.inr (.inl _)) :: r => some (false, r)
  | .ifnull _, .inr (.inr (.inr 0)) :: r => some (true, r)
  | .ifnonnull _, .inr (.inr (.inl _)) :: r => some (true, r)
  | .ifnonnull _, .inr (.inr (.inr 0)) :: r => some (false, r)
  | _, _ => none
def zz_j1 (code : List zz_C) (j : Nat) (st : List zz_V) : Option (Nat × List zz_V) := match code[j]? with
  | some e => match zz_jc e.2.1 st with
    | some (true, r) => some (e.2.2.2.getD 0 0, r)
    | some (false, r) => some (j + 1, r)
    | none => none
  | none => none
/-- a jump: goto; null or not -/
theorem zz_jp {j' : Nat} {st' : List zz_V} (h : zz_j1 P.code j st = some (j', st')) (k : zz_G X d P j' ls st' σ Post) : zz_G X d P j ls st σ Post := by
  intro p e s m args below meth c H locs lm hok hx hb hml hr hlk hown hts hE hS hR hl hlen hls hst
  unfold zz_j1 at h
  cases he : P.code[j]? with
  | none => rw [he] at h; cases h
  | some en =>
    rw [he] at h
    dsimp only at h
    obtain ⟨pc, ins, len, ts⟩ := en
    obtain ⟨r1, r2, r3, r4, r5⟩ := zz_row hok he
    rw [r5]
    dsimp only at h r1 r2 r3 r4 ⊢
    have go := fun st2 (hst2 : ∀ v ∈ st2, zz_ok X v) (hst' : st' = st2) => k p e s m args below meth c H locs lm hok hx hb hml hr hlk hown hts hE hS hR hl hlen hls (by rw [hst']; exact hst2)
    unfold zz_jc at h
    split at h
    · rename_i b r hj
      split at hj
      · cases hj
        cases h
        simp only [zz_ck, Bool.and_eq_true, decide_eq_true_eq] at r3
        obtain ⟨rfl, h2⟩ := r3
        exact lv_goto hx hb r1 (zz_tgt h2) (go _ hst rfl)
      · cases hj
      · cases hj
        cases h
        simp only [zz_ck, Bool.and_eq_true, decide_eq_true_eq] at r3
        obtain ⟨rfl, h2⟩ := r3
        exact lv_ifnullN hx hb r1 (zz_tgt h2) (go _ (List.forall_mem_cons.mp hst).2 rfl)
      · cases hj
        cases h
        simp only [zz_ck, Bool.and_eq_true, decide_eq_true_eq] at r3
        obtain ⟨rfl, h2⟩ := r3
        exact lv_ifnonnull hx hb r1 (zz_tgt h2) (go _ (List.forall_mem_cons.mp hst).2 rfl)
      · cases hj
      · cases hj
    · rename_i r hj
      split at hj
      · cases hj
      · cases hj
        cases h
        simp only [zz_ck, Bool.and_eq_true, decide_eq_true_eq] at r3
        obtain ⟨rfl, h2⟩ := r3
        refine lv_ifnull hx hb r1 ?_
        rw [← r2 rfl]
        exact go _ (List.forall_mem_cons.mp hst).2 rfl
      · cases hj
      · cases hj
      · cases hj
        cases h
        simp only [zz_ck, Bool.and_eq_true, decide_eq_true_eq] at r3
        obtain ⟨rfl, h2⟩ := r3
        refine lv_ifnonnullN hx hb r1 ?_
        rw [← r2 rfl]
        exact go _ (List.forall_mem_cons.mp hst).2 rfl
      · cases hj
    · cases h
def zz_bc : Instr → List zz_V → Option (Prop × Prop × List zz_V)
  | .ifCond .eq _, .inl x :: r => some (x = 0, x ≠ 0, r)
  | .ifCond .ne _, .inl x :: r => some (x ≠ 0, x = 0, r)
  | .ifCond .lt _, .inl x :: r => some (x < 0, 0 ≤ x, r)
  | .ifCond .ge _, .inl x :: r => some (0 ≤ x, x < 0, r)
  | .ifCond .gt _, .inl x :: r => some (0 < x, x ≤ 0, r)
  | .ifCond .le _, .inl x :: r => some (x ≤ 0, 0 < x, r)
  | .if_icmp .eq _, .inl y :: .inl x :: r => some (x = y, x ≠ y, r)
  | .if_icmp .ne _, .inl y :: .inl x :: r => some (x ≠ y, x = y, r)
  | .if_icmp .lt _, .inl y :: .inl x :: r => some (x < y, y ≤ x, r)
  | .if_icmp .ge _, .inl y :: .inl x :: r => some (y ≤ x, x < y, r)
  | .if_icmp .gt _, .inl y :: .inl x :: r => some (y < x, x ≤ y, r)
  | .if_icmp .le _, .inl y :: .inl x :: r => some (x ≤ y, y < x, r)
  | _, _ => none
def zz_b1 (code : List zz_C) (j : Nat) (st : List zz_V) : Option (Prop × Prop × Nat × List zz_V) := match code[j]? with
  | some e => match zz_bc e.2.1 st with
    | some (ct, cf, r) => some (ct, cf, e.2.2.2.getD 0 0, r)
    | none => none
  | none => none
theorem zz_iz : zz_in 0 := ⟨by omega, by omega⟩
theorem zz_z0 : Int32.ofInt 0 = 0 := by decide
/-- a branch -/
theorem zz_br {ct cf : Prop} {t : Nat} {r : List zz_V} (h : zz_b1 P.code j st = some (ct, cf, t, r)) (kt : ct → zz_G X d P t ls r σ Post) (kf : cf → zz_G X d P (j + 1) ls r σ Post) : zz_G X d P j ls st σ Post := by
  intro p e s m args below meth c H locs lm hok hx hb hml hr hlk hown hts hE hS hR hl hlen hls hst
  unfold zz_b1 at h
  cases he : P.code[j]? with
  | none => rw [he] at h; cases h
  | some en =>
    rw [he] at h
    dsimp only at h
    obtain ⟨pc, ins, len, ts⟩ := en
    obtain ⟨r1, r2, r3, r4, r5⟩ := zz_row hok he
    rw [r5]
    dsimp only at h r1 r2 r3 r4 ⊢
    have go := fun (ht : ct) (hst2 : ∀ v ∈ r, zz_ok X v) => kt ht p e s m args below meth c H locs lm hok hx hb hml hr hlk hown hts hE hS hR hl hlen hls hst2
    have gf := fun (hf : cf) (hst2 : ∀ v ∈ r, zz_ok X v) => kf hf p e s m args below meth c H locs lm hok hx hb hml hr hlk hown hts hE hS hR hl hlen hls hst2
    unfold zz_bc at h
    split at h
    · rename_i ct' cf' r' hj
      cases h
      split at hj
      · cases hj
        simp only [zz_ck, Bool.and_eq_true, decide_eq_true_eq] at r3
        obtain ⟨rfl, h2⟩ := r3
        obtain ⟨o1, o2⟩ := List.forall_mem_cons.mp hst
        refine lv_if_eq hx hb r1 (zz_tgt h2) (fun z => go ((zz_eq0 o1 zz_iz).mp (by rw [zz_z0]; exact z)) o2) (fun z => ?_)
        rw [← r2 rfl]
        exact gf (fun q => z ((zz_eq0 o1 zz_iz).mpr q |>.trans zz_z0)) o2
      · cases hj
        simp only [zz_ck, Bool.and_eq_true, decide_eq_true_eq] at r3
        obtain ⟨rfl, h2⟩ := r3
        obtain ⟨o1, o2⟩ := List.forall_mem_cons.mp hst
        refine lv_if_ne hx hb r1 (zz_tgt h2) (fun z => go (fun q => z ((zz_eq0 o1 zz_iz).mpr q |>.trans zz_z0)) o2) (fun z => ?_)
        rw [← r2 rfl]
        exact gf ((zz_eq0 o1 zz_iz).mp (by rw [zz_z0]; exact z)) o2
      · cases hj
        simp only [zz_ck, Bool.and_eq_true, decide_eq_true_eq] at r3
        obtain ⟨rfl, h2⟩ := r3
        obtain ⟨o1, o2⟩ := List.forall_mem_cons.mp hst
        refine lv_if_lt hx hb r1 (zz_tgt h2) (fun z => go ((zz_lt0 o1 zz_iz).mp (by rw [zz_z0]; exact z)) o2) (fun z => ?_)
        rw [← r2 rfl]
        exact gf (Int.not_lt.mp (fun q => z (by have := (zz_lt0 o1 zz_iz).mpr q; rw [zz_z0] at this; exact this))) o2
      · cases hj
        simp only [zz_ck, Bool.and_eq_true, decide_eq_true_eq] at r3
        obtain ⟨rfl, h2⟩ := r3
        obtain ⟨o1, o2⟩ := List.forall_mem_cons.mp hst
        refine lv_if_ge hx hb r1 (zz_tgt h2) (fun z => go ((zz_le0 zz_iz o1).mp (by rw [zz_z0]; exact z)) o2) (fun z => ?_)
        rw [← r2 rfl]
        exact gf (Int.not_le.mp (fun q => z (by have := (zz_le0 zz_iz o1).mpr q; rw [zz_z0] at this; exact this))) o2
      · cases hj
        simp only [zz_ck, Bool.and_eq_true, decide_eq_true_eq] at r3
        obtain ⟨rfl, h2⟩ := r3
        obtain ⟨o1, o2⟩ := List.forall_mem_cons.mp hst
        refine lv_if_gt hx hb r1 (zz_tgt h2) (fun z => go ((zz_lt0 zz_iz o1).mp (by rw [zz_z0]; exact z)) o2) (fun z => ?_)
        rw [← r2 rfl]
        exact gf (Int.not_lt.mp (fun q => z (by have := (zz_lt0 zz_iz o1).mpr q; rw [zz_z0] at this; exact this))) o2
      · cases hj
        simp only [zz_ck, Bool.and_eq_true, decide_eq_true_eq] at r3
        obtain ⟨rfl, h2⟩ := r3
        obtain ⟨o1, o2⟩ := List.forall_mem_cons.mp hst
        refine lv_if_le hx hb r1 (zz_tgt h2) (fun z => go ((zz_le0 o1 zz_iz).mp (by rw [zz_z0]; exact z)) o2) (fun z => ?_)
        rw [← r2 rfl]
        exact gf (Int.not_le.mp (fun q => z (by have := (zz_le0 o1 zz_iz).mpr q; rw [zz_z0] at this; exact this))) o2
      · cases hj
        simp only [zz_ck, Bool.and_eq_true, decide_eq_true_eq] at r3
        obtain ⟨rfl, h2⟩ := r3
        obtain ⟨o1, o2, o3⟩ := zz_fm2 hst
        refine lv_icmp_eq hx hb r1 (zz_tgt h2) (fun z => go ((zz_eq0 o2 o1).mp z) o3) (fun z => ?_)
        rw [← r2 rfl]
        exact gf (fun q => z ((zz_eq0 o2 o1).mpr q)) o3
      · cases hj
        simp only [zz_ck, Bool.and_eq_true, decide_eq_true_eq] at r3
        obtain ⟨rfl, h2⟩ := r3
        obtain ⟨o1, o2, o3⟩ := zz_fm2 hst
        refine lv_icmp_ne hx hb r1 (zz_tgt h2) (fun z => go (fun q => z ((zz_eq0 o2 o1).mpr q)) o3) (fun z => ?_)
        rw [← r2 rfl]
        exact gf ((zz_eq0 o2 o1).mp z) o3
      · cases hj
        simp only [zz_ck, Bool.and_eq_true, decide_eq_true_eq] at r3
        obtain ⟨rfl, h2⟩ := r3
        obtain ⟨o1, o2, o3⟩ := zz_fm2 hst
        refine lv_icmp_lt hx hb r1 (zz_tgt h2) (fun z => go ((zz_lt0 o2 o1).mp z) o3) (fun z => ?_)
        rw [← r2 rfl]
        exact gf (Int.not_lt.mp (fun q => z ((zz_lt0 o2 o1).mpr q))) o3
      · cases hj
        simp only [zz_ck, Bool.and_eq_true, decide_eq_true_eq] at r3
        obtain ⟨rfl, h2⟩ := r3
        obtain ⟨o1, o2, o3⟩ := zz_fm2 hst
        refine lv_icmp_ge hx hb r1 (zz_tgt h2) (fun z => go ((zz_le0 o1 o2).mp z) o3) (fun z => ?_)
        rw [← r2 rfl]
        exact gf (Int.not_le.mp (fun q => z ((zz_le0 o1 o2).mpr q))) o3
      · cases hj
        simp only [zz_ck, Bool.and_eq_true, decide_eq_true_eq] at r3
        obtain ⟨rfl, h2⟩ := r3
        obtain ⟨o1, o2, o3⟩ := zz_fm2 hst
        refine lv_icmp_gt hx hb r1 (zz_tgt h2) (fun z => go ((zz_lt0 o1 o2).mp z) o3) (fun z => ?_)
        rw [← r2 rfl]
        exact gf (Int.not_lt.mp (fun q => z ((zz_lt0 o1 o2).mpr q))) o3
      · cases hj
        simp only [zz_ck, Bool.and_eq_true, decide_eq_true_eq] at r3
        obtain ⟨rfl, h2⟩ := r3
        obtain ⟨o1, o2, o3⟩ := zz_fm2 hst
        refine lv_icmp_le hx hb r1 (zz_tgt h2) (fun z => go ((zz_le0 o2 o1).mp z) o3) (fun z => ?_)
        rw [← r2 rfl]
        exact gf (Int.not_le.mp (fun q => z ((zz_le0 o2 o1).mpr q))) o3
      · cases hj
    · cases h
/-- a switch by a table: the place in it is known -/
def zz_w1 (code : List zz_C) (j : Nat) (st : List zz_V) : Option (Int × Int × List Nat × List zz_V) := match code[j]? with
  | some e => match e.2.1, st with
    | .tableswitch _ lo _ _, .inl x :: r => some (x, lo, e.2.2.2, r)
    | _, _ => none
  | none => none
theorem zz_w1_of {x lo : Int} {ts : List Nat} {r : List zz_V} (h : zz_w1 P.code j st = some (x, lo, ts, r)) : ∃ pc len dflt hi offs, P.code[j]? = some (pc, .tableswitch dflt lo hi offs, len, ts) ∧ st = .inl x :: r := by
  unfold zz_w1 at h
  cases he : P.code[j]? with
  | none => rw [he] at h; cases h
  | some en =>
    obtain ⟨pc, ins, len, ts'⟩ := en
    rw [he] at h
    dsimp only at h
    split at h
    · cases h
      exact ⟨_, _, _, _, _, rfl, rfl⟩
    · cases h
theorem zz_swI {x lo : Int} {ts : List Nat} {r : List zz_V} (k t : Nat) (h : zz_w1 P.code j st = some (x, lo, ts, r)) (hx0 : x = lo + k) (ht : ts[k + 1]? = some t) (kk : zz_G X d P t ls r σ Post) : zz_G X d P j ls st σ Post := by
  intro p e s m args below meth c H locs lm hok hx hb hml hr hlk hown hts hE hS hR hl hlen hls hst
  obtain ⟨pc, len, dflt, hi, offs, he, rfl⟩ := zz_w1_of h
  obtain ⟨r1, r2, r3, r4, r5⟩ := zz_row hok he
  rw [r5]
  simp only [zz_ck, Bool.and_eq_true, decide_eq_true_eq] at r3
  obtain ⟨⟨⟨h1, h2⟩, h3⟩, h4⟩ := r3
  obtain ⟨o1, o2⟩ := List.forall_mem_cons.mp hst
  have hk : k < offs.size := by
    have := (List.getElem?_eq_some_iff.mp ht).1
    omega
  have h5 := List.all_eq_true.mp h4 k (List.mem_range.mpr hk)
  have e1 : ts.getD (k + 1) 0 = t := by rw [List.getD_eq_getElem?_getD, ht]; rfl
  rw [e1] at h5
  have hxi : (Int32.ofInt x).toInt = x := zz_tid o1
  have e2 : (x - lo).toNat = k := by omega
  refine lv_tableIn hx hb r1 (by rw [hxi]; omega) (by rw [hxi]; omega) (off := offs.getD k 0) ?_ (zz_tgt h5) (kk p e s m args below meth c H locs lm hok hx hb hml hr hlk hown hts hE hS hR hl hlen hls o2)
  rw [hxi, e2, Array.getD_eq_getD_getElem?, Array.getElem?_eq_getElem hk]
  rfl
theorem zz_swO {x lo : Int} {ts : List Nat} {r : List zz_V} (t : Nat) (h : zz_w1 P.code j st = some (x, lo, ts, r)) (hx0 : x < lo ∨ lo + ts.length ≤ x + 1) (ht : ts[0]? = some t) (kk : zz_G X d P t ls r σ Post) : zz_G X d P j ls st σ Post := by
  intro p e s m args below meth c H locs lm hok hx hb hml hr hlk hown hts hE hS hR hl hlen hls hst
  obtain ⟨pc, len, dflt, hi, offs, he, rfl⟩ := zz_w1_of h
  obtain ⟨r1, r2, r3, r4, r5⟩ := zz_row hok he
  rw [r5]
  simp only [zz_ck, Bool.and_eq_true, decide_eq_true_eq] at r3
  obtain ⟨⟨⟨h1, h2⟩, h3⟩, h4⟩ := r3
  obtain ⟨o1, o2⟩ := List.forall_mem_cons.mp hst
  have e1 : ts.getD 0 0 = t := by rw [List.getD_eq_getElem?_getD, ht]; rfl
  rw [e1] at h3
  have hxi : (Int32.ofInt x).toInt = x := zz_tid o1
  exact lv_tableOut hx hb r1 (by rw [hxi]; omega) (zz_tgt h3) (kk p e s m args below meth c H locs lm hok hx hb hml hr hlk hown hts hE hS hR hl hlen hls o2)
/-- a switch by a list -/
theorem zz_lu {x : Int} {r : List zz_V} {pc len : Nat} {dflt : Int} {ps : Array (Int × Int)} {ts : List Nat} (off : Int) (t : Nat) (he : P.code[j]? = some (pc, .lookupswitch dflt ps, len, ts)) (ho : Op.lookupswitch.offset ps.toList dflt x = off) (ht : zz_tg P.code pc off t = true) (kk : zz_G X d P t ls r σ Post) : zz_G X d P j ls (zI x :: r) σ Post := by
  intro p e s m args below meth c H locs lm hok hx hb hml hr hlk hown hts hE hS hR hl hlen hls hst
  obtain ⟨r1, r2, r3, r4, r5⟩ := zz_row hok he
  rw [r5]
  simp only [zz_ck, Bool.and_eq_true] at r3
  obtain ⟨⟨h1, h2⟩, h3⟩ := r3
  obtain ⟨o1, o2⟩ := List.forall_mem_cons.mp hst
  have hxi : (Int32.ofInt x).toInt = x := zz_tid o1
  exact lv_lookup hx hb r1 h1 (by rw [hxi]; exact ho) (zz_tgt ht) (kk p e s m args below meth c H locs lm hok hx hb hml hr hlk hown hts hE hS hR hl hlen hls o2)
end ZR
end
section
/-! ARRAYS, ENDS, CALLS over zz_G; contracts zz_T. -/
def zz_eb (i : Nat) : Bool := match zz_K i with
  | (53, n, q) => (List.range n).all (fun k => decide (i + q / 100 + q % 100 * k < zz_n) && decide (zz_K (i + q / 100 + q % 100 * k) = (9, 0, 0)))
  | (54, n, q) => (List.range n).all (fun k => decide (i + q / 100 + q % 100 * k < zz_n) && decide (zz_K (i + q / 100 + q % 100 * k) = (5, 60, 0)))
  | (55, n, q) => (List.range n).all (fun k => decide (i + q / 100 + q % 100 * k < zz_n) && decide (zz_K (i + q / 100 + q % 100 * k) = (2, 0, 0)))
  | _ => true
theorem zz_eb_b : (List.range zz_n).all zz_eb = true := by decide +kernel
/-- what an array of cells holds: its kind -/
def zz_el (t : Nat) : Nat × Nat := match t with
  | 53 => (9, 0)
  | 54 => (5, 60)
  | _ => (2, 0)
theorem zz_elOk {i t n q k : Nat} (hi : i < zz_n) (hK : zz_K i = (t, n, q)) (ht : 53 ≤ t ∧ t < 56) (hk : k < n) : i + q / 100 + q % 100 * k < zz_n ∧ zz_K (i + q / 100 + q % 100 * k) = ((zz_el t).1, (zz_el t).2, 0) := by
  have h1 := List.all_eq_true.mp zz_eb_b i (List.mem_range.mpr hi)
  unfold zz_eb at h1
  rw [hK] at h1
  obtain ⟨h2, h3⟩ := ht
  have h4 : t = 53 ∨ t = 54 ∨ t = 55 := by omega
  rcases h4 with rfl | rfl | rfl
  · have h5 := List.all_eq_true.mp h1 k (List.mem_range.mpr hk)
    simpa [zz_el] using h5
  · have h5 := List.all_eq_true.mp h1 k (List.mem_range.mpr hk)
    simpa [zz_el] using h5
  · have h5 := List.all_eq_true.mp h1 k (List.mem_range.mpr hk)
    simpa [zz_el] using h5
theorem zz_vin {i : Int} {n : Nat} (hi : zz_in i) (h : 0 ≤ i ∧ i < n) : vp_in (Int32.ofInt i) n ∧ (Int32.ofInt i).toNatClampNeg = i.toNat := by
  refine ⟨vp_in_iff.mpr (by rw [zz_tid hi]; exact h), ?_⟩
  show (Int32.ofInt i).toInt.toNat = _
  rw [zz_tid hi]
def zz_a1 (code : List zz_C) (j : Nat) (st : List zz_V) : Option (Int × Nat × Nat × List zz_V) := match code[j]? with
  | some e => match e.2.1, st with
    | .iaload, .inl i :: .inr (.inr (.inl (50, n, _, a))) :: r => some (i, n, a, r)
    | .baload, .inl i :: .inr (.inr (.inl (51, n, _, a))) :: r => some (i, n, a, r)
    | .baload, .inl i :: .inr (.inr (.inl (52, n, _, a))) :: r => some (i, n, a, r)
    | _, _ => none
  | none => none
theorem zz_ce50 {X : zz_X} {σ : zz_M} {a t p q : Nat} (h1 : 50 ≤ t) (h2 : t < 53) : zz_ce X σ a (t, p, q) = .inl (X.dA (t - 50), p, .inl (fun i => Int32.ofInt (σ.2 a i))) := by
  unfold zz_ce
  rw [if_neg (by dsimp only; omega), if_pos (by dsimp only; omega)]
theorem zz_ce53 {X : zz_X} {σ : zz_M} {a t p q : Nat} (h1 : 53 ≤ t) : zz_ce X σ a (t, p, q) = .inl (X.dA (t - 50), p, .inr (.inr (.inr (.inr (fun i => some (a + q / 100 + q % 100 * i)))))) := by
  unfold zz_ce
  rw [if_neg (by dsimp only; omega), if_neg (by dsimp only; omega)]
theorem zz_ws_sa {X : zz_X} {σ : zz_M} {i t p q k : Nat} {v : Int} {f : Nat → Int32} (hi : i < zz_n) (hK : zz_K i = (t, p, q)) (h1 : 50 ≤ t) (h2 : t < 53) (hf : f = upd (fun j => Int32.ofInt (σ.2 (X.b + i) j)) k (Int32.ofInt v)) :
    (zz_ws X σ).set i (X.b + i, .inl (X.dA (t - 50), p, .inl f)) = zz_ws X (zz_sa σ (X.b + i) k v) := by
  refine List.ext_getElem? fun j => ?_
  by_cases hj : j < zz_n
  · by_cases e : j = i
    · subst e
      have ef : f = fun i => Int32.ofInt ((zz_sa σ (X.b + j) k v).2 (X.b + j) i) := by
        rw [hf]
        funext z
        unfold zz_sa upd
        by_cases ez : z = k
        · simp [ez]
        · simp [ez]
      rw [List.getElem?_set_self (by rw [zz_ws_len]; exact hj), zz_ws_at X _ hj, hK, zz_ce50 h1 h2, ef]
    · rw [List.getElem?_set_ne (Ne.symm e), zz_ws_at X _ hj, zz_ws_at X _ hj]
      have e2 : X.b + j ≠ X.b + i := by omega
      have e3 : ∀ K, zz_ce X (zz_sa σ (X.b + i) k v) (X.b + j) K = zz_ce X σ (X.b + j) K := by
        intro K
        have e4 : (zz_sa σ (X.b + i) k v).2 (X.b + j) = σ.2 (X.b + j) := by
          funext z
          unfold zz_sa
          simp only [e2, false_and, if_false]
        unfold zz_ce
        rw [e4]
        rfl
      rw [e3]
  · rw [List.getElem?_eq_none (by rw [List.length_set, zz_ws_len]; omega), List.getElem?_eq_none (by rw [zz_ws_len]; omega)]
theorem zz_R_sa {X : zz_X} {σ : zz_M} {H H1 : Heap} {a i : Nat} {v : Int} (hR : zz_R X σ H) (hv : zz_in v) (hP : va_P X.D zz_cl (zz_ws X (zz_sa σ a i v)) H1) : zz_R X (zz_sa σ a i v) H1 := by
  refine ⟨hP, hR.2.1, fun a' i' => ?_⟩
  unfold zz_sa
  dsimp only
  split
  · exact hv
  · exact hR.2.2 a' i'
section ZA
variable {X : zz_X} {d : Nat} {P : zz_P} {j : Nat} {ls st : List zz_V} {σ : zz_M} {Post : Option zz_V → zz_M → Prop}
/-- a number out of an array -/
theorem zz_ald {i : Int} {n a : Nat} {r : List zz_V} (h : zz_a1 P.code j st = some (i, n, a, r)) (hi : 0 ≤ i ∧ i < n) (k : zz_G X d P (j + 1) ls (zI (σ.2 a i.toNat) :: r) σ Post) : zz_G X d P j ls st σ Post := by
  intro p e s m args below meth c H locs lm hok hx hb hml hr hlk hown hts hE hS hR hl hlen hls hst
  unfold zz_a1 at h
  cases he : P.code[j]? with
  | none => rw [he] at h; cases h
  | some en =>
    rw [he] at h
    dsimp only at h
    obtain ⟨pc, ins, len, ts⟩ := en
    obtain ⟨r1, r2, r3, r4, r5⟩ := zz_row hok he
    rw [r5]
    dsimp only at h r1 r2 r3 r4 ⊢
    split at h
    · rename_i n' q' a' r'
      cases h
      dsimp only [zz_ck] at r3
      have el := of_decide_eq_true r3
      subst el
      obtain ⟨o1, o2, o3⟩ := zz_fm2 hst
      obtain ⟨i0, hi0, ha, hK⟩ := o2
      dsimp only at ha hK
      subst ha
      have hat := zz_ws_at X σ hi0
      rw [hK, zz_ce50 (by omega) (by omega)] at hat
      obtain ⟨v1, v2⟩ := zz_vin o1 hi
      refine va_iald (D := X.D) (cl := zz_cl) (ws := zz_ws X σ) hx hb hE.1 hR.1 i0 0 hat rfl v1 r1 ?_
      have r2' : zz_pc P (j + 1) = pc + 1 := r2 rfl
      rw [← r2', v2]
      exact k p e s m args below meth c H locs lm hok hx hb hml hr hlk hown hts hE hS hR hl hlen hls (zz_all1 (P := zz_ok X) (hR.2.2 _ _) o3)
    · rename_i n' q' a' r'
      cases h
      dsimp only [zz_ck] at r3
      have el := of_decide_eq_true r3
      subst el
      obtain ⟨o1, o2, o3⟩ := zz_fm2 hst
      obtain ⟨i0, hi0, ha, hK⟩ := o2
      dsimp only at ha hK
      subst ha
      have hat := zz_ws_at X σ hi0
      rw [hK, zz_ce50 (by omega) (by omega)] at hat
      obtain ⟨v1, v2⟩ := zz_vin o1 hi
      refine va_bald (D := X.D) (cl := zz_cl) (ws := zz_ws X σ) hx hb hE.1 hR.1 i0 1 hat rfl v1 r1 ?_
      have r2' : zz_pc P (j + 1) = pc + 1 := r2 rfl
      rw [← r2', v2]
      exact k p e s m args below meth c H locs lm hok hx hb hml hr hlk hown hts hE hS hR hl hlen hls (zz_all1 (P := zz_ok X) (hR.2.2 _ _) o3)
    · rename_i n' q' a' r'
      cases h
      dsimp only [zz_ck] at r3
      have el := of_decide_eq_true r3
      subst el
      obtain ⟨o1, o2, o3⟩ := zz_fm2 hst
      obtain ⟨i0, hi0, ha, hK⟩ := o2
      dsimp only at ha hK
      subst ha
      have hat := zz_ws_at X σ hi0
      rw [hK, zz_ce50 (by omega) (by omega)] at hat
      obtain ⟨v1, v2⟩ := zz_vin o1 hi
      refine va_zald (D := X.D) (cl := zz_cl) (ws := zz_ws X σ) hx hb hE.1 hR.1 i0 2 hat rfl v1 r1 ?_
      have r2' : zz_pc P (j + 1) = pc + 1 := r2 rfl
      rw [← r2', v2]
      exact k p e s m args below meth c H locs lm hok hx hb hml hr hlk hown hts hE hS hR hl hlen hls (zz_all1 (P := zz_ok X) (hR.2.2 _ _) o3)
    · cases h
def zz_q1 (code : List zz_C) (j : Nat) (st : List zz_V) : Option (Int × Nat × Nat × Nat × Nat × List zz_V) := match code[j]? with
  | some e => match e.2.1, st with
    | .aaload, .inl i :: .inr (.inr (.inl (t, n, q, a))) :: r => match Nat.ble 53 t && Nat.ble t 55 with
      | true => some (i, t, n, q, a, r)
      | false => none
    | _, _ => none
  | none => none
/-- a cell out of an array -/
theorem zz_aad {i : Int} {t n q a : Nat} {r : List zz_V} (h : zz_q1 P.code j st = some (i, t, n, q, a, r)) (hi : 0 ≤ i ∧ i < n) (k : zz_G X d P (j + 1) ls (zP (zz_el t).1 (zz_el t).2 0 (a + q / 100 + q % 100 * i.toNat) :: r) σ Post) : zz_G X d P j ls st σ Post := by
  intro p e s m args below meth c H locs lm hok hx hb hml hr hlk hown hts hE hS hR hl hlen hls hst
  unfold zz_q1 at h
  cases he : P.code[j]? with
  | none => rw [he] at h; cases h
  | some en =>
    rw [he] at h
    dsimp only at h
    obtain ⟨pc, ins, len, ts⟩ := en
    obtain ⟨r1, r2, r3, r4, r5⟩ := zz_row hok he
    rw [r5]
    dsimp only at h r1 r2 r3 r4 ⊢
    split at h
    · split at h
      · rename_i hb2
        cases h
        rw [Bool.and_eq_true] at hb2
        have b1 := Nat.le_of_ble_eq_true hb2.1
        have b2 := Nat.le_of_ble_eq_true hb2.2
        dsimp only [zz_ck] at r3
        have el := of_decide_eq_true r3
        subst el
        obtain ⟨o1, o2, o3⟩ := zz_fm2 hst
        obtain ⟨i0, hi0, ha, hK⟩ := o2
        dsimp only at ha hK
        subst ha
        have hat := zz_ws_at X σ hi0
        rw [hK, zz_ce53 b1] at hat
        obtain ⟨v1, v2⟩ := zz_vin o1 hi
        obtain ⟨g1, g2⟩ := zz_elOk hi0 hK ⟨b1, by omega⟩ (k := i.toNat) (by omega)
        have hty : ∃ C, (zz_tys X)[t - 50]? = some (X.dA (t - 50), .object C) := by
          have ht2 : t = 53 ∨ t = 54 ∨ t = 55 := by omega
          rcases ht2 with rfl | rfl | rfl
          · exact ⟨_, rfl⟩
          · exact ⟨_, rfl⟩
          · exact ⟨_, rfl⟩
        obtain ⟨C, hty⟩ := hty
        refine va_aldq (D := X.D) (cl := zz_cl) (ws := zz_ws X σ) hx hb hE.1 hR.1 i0 (t - 50) hat hty v1 r1 ?_
        have r2' : zz_pc P (j + 1) = pc + 1 := r2 rfl
        rw [← r2', v2]
        exact k p e s m args below meth c H locs lm hok hx hb hml hr hlk hown hts hE hS hR hl hlen hls (zz_all1 (P := zz_ok X) ⟨i0 + q / 100 + q % 100 * i.toNat, g1, by dsimp only; omega, g2⟩ o3)
      · cases h
    · cases h
def zz_as1 (code : List zz_C) (j : Nat) (st : List zz_V) : Option (Int × Int × Nat × Nat × List zz_V) := match code[j]? with
  | some e => match e.2.1, st with
    | .iastore, .inl v :: .inl i :: .inr (.inr (.inl (50, n, _, a))) :: r => some (v, i, n, a, r)
    | .bastore, .inl v :: .inl i :: .inr (.inr (.inl (51, n, _, a))) :: r => some (zz_i2b v, i, n, a, r)
    | .bastore, .inl v :: .inl i :: .inr (.inr (.inl (52, n, _, a))) :: r => some (zz_i2z v, i, n, a, r)
    | _, _ => none
  | none => none
theorem zz_i2b_of (v : Int) : Int32.ofInt (zz_i2b v) = vp_nar .byte (Int32.ofInt v) := by
  unfold zz_i2b
  rw [Int32.ofInt_toInt, vp_nar_byte]
theorem zz_i2z_of (v : Int) : Int32.ofInt (zz_i2z v) = vp_nar .boolean (Int32.ofInt v) := by
  unfold zz_i2z
  rw [Int32.ofInt_toInt]
/-- a number into an array -/
theorem zz_ast {v i : Int} {n a : Nat} {r : List zz_V} (h : zz_as1 P.code j st = some (v, i, n, a, r)) (hi : 0 ≤ i ∧ i < n) (k : zz_G X d P (j + 1) ls r (zz_sa σ a i.toNat v) Post) : zz_G X d P j ls st σ Post := by
  intro p e s m args below meth c H locs lm hok hx hb hml hr hlk hown hts hE hS hR hl hlen hls hst
  unfold zz_as1 at h
  cases he : P.code[j]? with
  | none => rw [he] at h; cases h
  | some en =>
    rw [he] at h
    dsimp only at h
    obtain ⟨pc, ins, len, ts⟩ := en
    obtain ⟨r1, r2, r3, r4, r5⟩ := zz_row hok he
    rw [r5]
    dsimp only at h r1 r2 r3 r4 ⊢
    split at h
    · rename_i n' q' a' r'
      cases h
      dsimp only [zz_ck] at r3
      have el := of_decide_eq_true r3
      subst el
      obtain ⟨o0, o1, o4⟩ := zz_fm2 hst
      obtain ⟨o2, o3⟩ := List.forall_mem_cons.mp o4
      obtain ⟨i0, hi0, ha, hK⟩ := o2
      dsimp only at ha hK
      subst ha
      have hat := zz_ws_at X σ hi0
      rw [hK, zz_ce50 (by omega) (by omega)] at hat
      obtain ⟨v1, v2⟩ := zz_vin o1 hi
      refine va_iast (D := X.D) (cl := zz_cl) (ws := zz_ws X σ) hx hb hE.1 hR.1 (zz_ws_D X σ) hS i0 0 hat rfl v1 r1 (fun H1 locs1 hP1 hD1 hS1 => ?_)
      rw [v2] at hP1
      have hP2 := hP1
      rw [zz_ws_sa (t := 50) (k := i.toNat) (v := v) hi0 hK (by omega) (by omega) (rfl)] at hP2
      have r2' : zz_pc P (j + 1) = pc + 1 := r2 rfl
      rw [← r2']
      exact k p e s m args below meth c H1 locs1 lm hok hx hb hml hr hlk hown hts hE hS1 (zz_R_sa hR (o0) hP2) hl hlen hls o3
    · rename_i n' q' a' r'
      cases h
      dsimp only [zz_ck] at r3
      have el := of_decide_eq_true r3
      subst el
      obtain ⟨o0, o1, o4⟩ := zz_fm2 hst
      obtain ⟨o2, o3⟩ := List.forall_mem_cons.mp o4
      obtain ⟨i0, hi0, ha, hK⟩ := o2
      dsimp only at ha hK
      subst ha
      have hat := zz_ws_at X σ hi0
      rw [hK, zz_ce50 (by omega) (by omega)] at hat
      obtain ⟨v1, v2⟩ := zz_vin o1 hi
      refine va_bast (D := X.D) (cl := zz_cl) (ws := zz_ws X σ) hx hb hE.1 hR.1 (zz_ws_D X σ) hS i0 1 hat rfl v1 r1 (fun H1 locs1 hP1 hD1 hS1 => ?_)
      rw [v2] at hP1
      have hP2 := hP1
      rw [zz_ws_sa (t := 51) (k := i.toNat) (v := zz_i2b _) hi0 hK (by omega) (by omega) (by rw [zz_i2b_of])] at hP2
      have r2' : zz_pc P (j + 1) = pc + 1 := r2 rfl
      rw [← r2']
      exact k p e s m args below meth c H1 locs1 lm hok hx hb hml hr hlk hown hts hE hS1 (zz_R_sa hR (zz_i32 _) hP2) hl hlen hls o3
    · rename_i n' q' a' r'
      cases h
      dsimp only [zz_ck] at r3
      have el := of_decide_eq_true r3
      subst el
      obtain ⟨o0, o1, o4⟩ := zz_fm2 hst
      obtain ⟨o2, o3⟩ := List.forall_mem_cons.mp o4
      obtain ⟨i0, hi0, ha, hK⟩ := o2
      dsimp only at ha hK
      subst ha
      have hat := zz_ws_at X σ hi0
      rw [hK, zz_ce50 (by omega) (by omega)] at hat
      obtain ⟨v1, v2⟩ := zz_vin o1 hi
      refine va_zast (D := X.D) (cl := zz_cl) (ws := zz_ws X σ) hx hb hE.1 hR.1 (zz_ws_D X σ) hS i0 2 hat rfl v1 r1 (fun H1 locs1 hP1 hD1 hS1 => ?_)
      rw [v2] at hP1
      have hP2 := hP1
      rw [zz_ws_sa (t := 52) (k := i.toNat) (v := zz_i2z _) hi0 hK (by omega) (by omega) (by rw [zz_i2z_of])] at hP2
      have r2' : zz_pc P (j + 1) = pc + 1 := r2 rfl
      rw [← r2']
      exact k p e s m args below meth c H1 locs1 lm hok hx hb hml hr hlk hown hts hE hS1 (zz_R_sa hR (zz_i32 _) hP2) hl hlen hls o3
    · cases h
/-- a truth value into a field -/
def zz_z1 (code : List zz_C) (j : Nat) (st : List zz_V) : Option (Int × Nat × Nat × List zz_V) := match code[j]? with
  | some e => match e.2.1, e.2.2.2, st with
    | .putfield _, f :: _, .inl v :: .inr (.inr (.inl (t, p, q, a))) :: r => match Nat.beq (f / 100) t, zz_rf f p q, zz_isZ f with
      | true, none, true => some (v, f, a, r)
      | _, _, _ => none
    | _, _, _ => none
  | none => none
theorem zz_ptz {v : Int} {f a : Nat} {r : List zz_V} (h : zz_z1 P.code j st = some (v, f, a, r)) (hv : v = 0 ∨ v = 1) (k : zz_G X d P (j + 1) ls r (zz_sf σ f a v) Post) : zz_G X d P j ls st σ Post := by
  intro p e s m args below meth c H locs lm hok hx hb hml hr hlk hown hts hE hS hR hl hlen hls hst
  unfold zz_z1 at h
  cases he : P.code[j]? with
  | none => rw [he] at h; cases h
  | some en =>
    rw [he] at h
    dsimp only at h
    obtain ⟨pc, ins, len, ts⟩ := en
    obtain ⟨r1, r2, r3, r4, r5⟩ := zz_row hok he
    rw [r5]
    dsimp only at h r1 r2 r3 r4 ⊢
    split at h
    · rename_i i f' ts' v' t p1 q1 a' r'
      split at h
      · rename_i hbt hrf hz
        cases h
        simp only [zz_ck, Bool.and_eq_true, decide_eq_true_eq] at r3
        obtain ⟨⟨⟨el, h13⟩, hnf⟩, hfin⟩ := r3
        subst el
        have h13 : f / 100 < 13 := h13
        have hnf : f % 100 < zz_nf (f / 100) := hnf
        have hfin : (zz_fT f).2.2.2 = false := hfin
        have ht := Nat.eq_of_beq_eq_true hbt
        subst ht
        obtain ⟨o0, o1, o3⟩ := zz_fm2 hst
        obtain ⟨i0, hi0, ha, hK⟩ := o1
        dsimp only at ha hK
        subst ha
        obtain ⟨C, T, ty, hc, hin, hty, hnm⟩ := zz_cl_at h13
        have hlink := hts _ (r4 (.fieldLink P.y.cls i (zz_fT f).1 (zz_fT f).2.1 (zz_fT f).2.2.1) List.mem_cons_self)
        have hpty := zz_fieldTy h13 hnf hrf
        rw [hz] at hpty
        rw [zz_fT_at hc] at hlink hfin hpty
        have hat := zz_ws_at X σ hi0
        rw [hK, zz_ce_o h13] at hat
        refine va_put (D := X.D) (cl := zz_cl) (ws := zz_ws X σ) (ci := f / 100) (v := .int (Int32.ofInt v)) (ty := .boolean) hx hb hts hin ty hty hnm hown hE.1 hR.1 (zz_ws_D X σ) hS i0 hat hc (f % 100) hnf hlink (fun _ h => h) hfin hpty ?_ ?_ (by rw [zz_fs_len]; exact hnf) r1 (fun H1 locs1 hP1 hD1 hS1 => ?_)
        · rcases hv with rfl | rfl <;> decide
        · rcases hv with rfl | rfl <;> decide
        · rw [zz_ws_sf hi0 hK h13 rfl hrf] at hP1
          rw [← r2 rfl]
          exact k p e s m args below meth c H1 locs1 lm hok hx hb hml hr hlk hown hts hE hS1 (zz_R_sf hR o0 hP1) hl hlen hls o3
      · cases h
    · cases h
def zz_d1 (code : List zz_C) (j : Nat) (st : List zz_V) : Option (Int × Int × List zz_V) := match code[j]? with
  | some e => match e.2.1, st with
    | .idiv, .inl y :: .inl x :: r => some (y, zz_div x y, r)
    | .irem, .inl y :: .inl x :: r => some (y, zz_rem x y, r)
    | _, _ => none
  | none => none
theorem zz_dv {y z : Int} {r : List zz_V} (h : zz_d1 P.code j st = some (y, z, r)) (hy : y ≠ 0) (k : zz_G X d P (j + 1) ls (zI z :: r) σ Post) : zz_G X d P j ls st σ Post := by
  intro p e s m args below meth c H locs lm hok hx hb hml hr hlk hown hts hE hS hR hl hlen hls hst
  unfold zz_d1 at h
  cases he : P.code[j]? with
  | none => rw [he] at h; cases h
  | some en =>
    rw [he] at h
    dsimp only at h
    obtain ⟨pc, ins, len, ts⟩ := en
    obtain ⟨r1, r2, r3, r4, r5⟩ := zz_row hok he
    rw [r5]
    dsimp only at h r1 r2 r3 r4 ⊢
    split at h
    · rename_i y' x' r'
      cases h
      dsimp only [zz_ck] at r3
      have el := of_decide_eq_true r3
      subst el
      obtain ⟨o1, o2, o3⟩ := zz_fm2 hst
      refine lv_idiv hx hb r1 (fun z => hy ((zz_eq0 o1 zz_iz).mp (z.trans zz_z0.symm))) ?_
      have r2' : zz_pc P (j + 1) = pc + 1 := r2 rfl
      rw [← r2']
      have k2 := k p e s m args below meth c H locs lm hok hx hb hml hr hlk hown hts hE hS hR hl hlen hls (zz_all1 (P := zz_ok X) (zz_i32 _) o3)
      have ev := zz_b_of (fun x y => x / y) x' y
      simp only [List.map_cons, zz_toV, zz_div, ev] at k2
      exact k2
    · rename_i y' x' r'
      cases h
      dsimp only [zz_ck] at r3
      have el := of_decide_eq_true r3
      subst el
      obtain ⟨o1, o2, o3⟩ := zz_fm2 hst
      refine lv_irem hx hb r1 (fun z => hy ((zz_eq0 o1 zz_iz).mp (z.trans zz_z0.symm))) ?_
      have r2' : zz_pc P (j + 1) = pc + 1 := r2 rfl
      rw [← r2']
      have k2 := k p e s m args below meth c H locs lm hok hx hb hml hr hlk hown hts hE hS hR hl hlen hls (zz_all1 (P := zz_ok X) (zz_i32 _) o3)
      have ev := zz_b_of (fun x y => x - x / y * y) x' y
      simp only [List.map_cons, zz_toV, zz_rem, ev] at k2
      exact k2
    · cases h
end ZA
end
section
/-! ENDS, CONTRACTS, CALLS. -/
section ZE
variable {X : zz_X} {d : Nat} {P : zz_P} {j : Nat} {ls st : List zz_V} {σ : zz_M} {Post : Option zz_V → zz_M → Prop}
def zz_i1 (code : List zz_C) (j : Nat) (st : List zz_V) : Option Int := match code[j]? with
  | some e => match e.2.1, st with
    | .ireturn, [.inl v] => some v
    | _, _ => none
  | none => none
/-- a whole number, a truth value is the answer -/
theorem zz_ri {v : Int} (h : zz_i1 P.code j st = some v) (hrt : P.ret = some .int ∨ (P.ret = some .boolean ∧ (v = 0 ∨ v = 1))) (hp : Post (some (zI v)) σ) : zz_G X d P j ls st σ Post := by
  intro p e s m args below meth c H locs lm hok hx hb hml hr hlk hown hts hE hS hR hl hlen hls hst
  unfold zz_i1 at h
  cases he : P.code[j]? with
  | none => rw [he] at h; cases h
  | some en =>
    rw [he] at h
    dsimp only at h
    obtain ⟨pc, ins, len, ts⟩ := en
    obtain ⟨r1, r2, r3, r4, r5⟩ := zz_row hok he
    rw [r5]
    dsimp only at h r1 r2 r3 r4 ⊢
    split at h
    · cases h
      dsimp only [zz_ck] at r3
      have el := of_decide_eq_true r3
      subst el
      have o1 : zz_in v := hst _ List.mem_cons_self
      have hq : ∀ t : State, t.heap = H → s.WarmedH t.vm → zz_Q X Post args s (.returned (some (.int (Int32.ofInt v)))) t := fun t ht _ => ⟨⟨some (zI v), σ, rfl, fun w hw => by cases hw; exact o1, hp, by rw [ht]; exact hR⟩, hS.F ht⟩
      rcases hrt with hrt | ⟨hrt, hv⟩
      · exact W.iret hx hb (hr.trans hrt) hq hS.2.2 r1 hlk
      · refine W.zret hx hb (hr.trans hrt) ?_ hq hS.2.2 r1 hlk
        rcases hv with rfl | rfl <;> decide
    · cases h
def zz_i2 (code : List zz_C) (j : Nat) (st : List zz_V) : Option zz_V := match code[j]? with
  | some e => match e.2.1, st with
    | .areturn, [.inr (.inr (.inl q))] => some (.inr (.inr (.inl q)))
    | .areturn, [.inr (.inr (.inr 0))] => some (.inr (.inr (.inr 0)))
    | _, _ => none
  | none => none
theorem zz_ra {v : zz_V} {n : String} (h : zz_i2 P.code j st = some v) (hrt : P.ret = some (.object n)) (hp : Post (some v) σ) : zz_G X d P j ls st σ Post := by
  intro p e s m args below meth c H locs lm hok hx hb hml hr hlk hown hts hE hS hR hl hlen hls hst
  unfold zz_i2 at h
  cases he : P.code[j]? with
  | none => rw [he] at h; cases h
  | some en =>
    rw [he] at h
    dsimp only at h
    obtain ⟨pc, ins, len, ts⟩ := en
    obtain ⟨r1, r2, r3, r4, r5⟩ := zz_row hok he
    rw [r5]
    dsimp only at h r1 r2 r3 r4 ⊢
    split at h
    · rename_i q
      cases h
      dsimp only [zz_ck] at r3
      have el := of_decide_eq_true r3
      subst el
      have o1 := hst _ List.mem_cons_self
      exact W.aret hx hb (hr.trans hrt) (Or.inl ⟨_, rfl⟩) (Or.inr ⟨q.2.2.2, rfl⟩) (fun t ht _ => ⟨⟨some (.inr (.inr (.inl q))), σ, rfl, fun w hw => by cases hw; exact o1, hp, by rw [ht]; exact hR⟩, hS.F ht⟩) hS.2.2 r1 hlk
    · cases h
      dsimp only [zz_ck] at r3
      have el := of_decide_eq_true r3
      subst el
      have o1 := hst _ List.mem_cons_self
      exact W.aret hx hb (hr.trans hrt) (Or.inl ⟨_, rfl⟩) (Or.inl rfl) (fun t ht _ => ⟨⟨some zN, σ, rfl, fun w hw => by cases hw; exact o1, hp, by rw [ht]; exact hR⟩, hS.F ht⟩) hS.2.2 r1 hlk
    · cases h
def zz_i3 (code : List zz_C) (j : Nat) (st : List zz_V) : Option Unit := match code[j]? with
  | some e => match e.2.1, st with
    | .return_, [] => some ()
    | _, _ => none
  | none => none
theorem zz_rv (h : zz_i3 P.code j st = some ()) (hrt : P.ret = none) (hp : Post none σ) : zz_G X d P j ls st σ Post := by
  intro p e s m args below meth c H locs lm hok hx hb hml hr hlk hown hts hE hS hR hl hlen hls hst
  unfold zz_i3 at h
  cases he : P.code[j]? with
  | none => rw [he] at h; cases h
  | some en =>
    rw [he] at h
    dsimp only at h
    obtain ⟨pc, ins, len, ts⟩ := en
    obtain ⟨r1, r2, r3, r4, r5⟩ := zz_row hok he
    rw [r5]
    dsimp only at h r1 r2 r3 r4 ⊢
    split at h
    · dsimp only [zz_ck] at r3
      have el := of_decide_eq_true r3
      subst el
      exact W.vret hx hb (hr.trans hrt) (fun t ht _ => ⟨⟨none, σ, rfl, (fun w hw => by cases hw), hp, by rw [ht]; exact hR⟩, hS.F ht⟩) hS.2.2 r1 hlk
    · cases h
theorem zz_E.kept {U : State} {H H1 : Heap} (h : zz_E X U H) (hz : H.size ≤ H1.size) (hq : ∀ a : Nat, a < H.size → ¬ zz_A X a → H1[a]? = H[a]?) : zz_E X U H1 := by
  obtain ⟨h1, h2, h3, h4, h5, h6⟩ := h
  exact ⟨h1, fun i hi => ⟨(h2 i hi).1.kept hq, (h2 i hi).2.1.kept hq, (h2 i hi).2.2.1.kept hq, (h2 i hi).2.2.2.kept hq⟩, h3, h4.kept hq, h5.kept hq, Nat.le_trans h6 hz⟩
theorem zz_E.warm {s U : State} {H : Heap} (hW : s.WarmedH U.vm) (h : zz_E X s H) : zz_E X U H := by
  obtain ⟨h1, h2, h3, h4, h5, h6⟩ := h
  have ha := hW.alike
  exact ⟨va_K.moved ha h1, fun i hi => ⟨(h2 i hi).1.moved ha, (h2 i hi).2.1.moved ha, (h2 i hi).2.2.1.moved ha, (h2 i hi).2.2.2.moved ha⟩, ⟨fun i q hq => vk_R.warm hW (h3.1 i q hq), fun i q hq => va_Nw.warmM hW (h3.2 i q hq)⟩, h4.moved ha, h5.moved ha, h6⟩
theorem zz_E.same {u U : State} {H : Heap} (hv : U.vm = u.vm) (h : zz_E X u H) : zz_E X U H := by
  obtain ⟨h1, h2, h3, h4, h5, h6⟩ := h
  have ha : u.vm.Alike U.vm := by rw [hv]; exact Vm.Alike.refl u.vm
  exact ⟨va_K.moved ha h1, fun i hi => ⟨(h2 i hi).1.moved ha, (h2 i hi).2.1.moved ha, (h2 i hi).2.2.1.moved ha, (h2 i hi).2.2.2.moved ha⟩, ⟨fun i q hq => vk_R.same hv (h3.1 i q hq), fun i q hq => va_Nw.same rfl hv.symm (h3.2 i q hq)⟩, h4.moved ha, h5.moved ha, h6⟩
/-- a method that can be called: the tables' words of it -/
def zz_okC (P : zz_P) (stat : Bool) (t n : Nat) : Prop := Cond.code P.y P.bytes P.maxL P.ret ∈ zz_tb ∧ Cond.initialized P.y.cls ∈ zz_tb ∧ (zz_mn P.no = P.y ∧ zz_isS P.no = stat) ∧ plainName P.y.cls = true ∧ (P.y.cls ≠ "java/lang/invoke/MethodHandle" ∧ P.y.cls ≠ "java/lang/invoke/VarHandle") ∧ zz_pc P 0 = 0 ∧ (match stat with
  | true => Cond.static P.y ∈ zz_tb ∧ (parseMethodDescriptor P.y.desc).map (fun d => d.parameters.length) = some n
  | false => Cond.instanceMethod P.y ∈ zz_tb ∧ Cond.selects P.y.cls P.y P.y ∈ zz_tb ∧ (parseMethodDescriptor P.y.desc).map (fun d => d.parameters.length + 1) = some n ∧ zz_cl[t]?.map (fun c => c.1) = some P.y.cls)
def zz_th (stat : Bool) (t : Nat) (as : List zz_V) : Bool := match stat with
  | true => true
  | false => match as with
    | .inr (.inr (.inl (t', _, _, _))) :: _ => Nat.beq t' t
    | _ => false
def zz_Pc (X : zz_X) (as : List zz_V) (σ : zz_M) : Array Value → State → Prop := fun v U => v = (as.map (zz_toV X)).toArray ∧ (∀ w ∈ as, zz_ok X w) ∧ zz_R X σ U.heap ∧ zz_E X U U.heap
/-- a method's contract -/
def zz_T (X : zz_X) (d : Nat) (P : zz_P) (as : List zz_V) (σ : zz_M) (Post : Option zz_V → zz_M → Prop) : Prop :=
  ∃ (stat : Bool) (t n : Nat), zz_okC P stat t n ∧ as.length = n ∧ zz_th stat t as = true ∧ Met X.l P.y (Cond.code P.y P.bytes P.maxL P.ret :: zz_tb) (zz_room d) (zz_Pc X as σ) (zz_Q X Post) 0 0 (zz_A X)
def zz_sl : List zz_V → List zz_V
  | [] => []
  | .inr (.inl i) :: r => .inr (.inl i) :: zU :: zz_sl r
  | v :: r => v :: zz_sl r
def zz_ent (as : List zz_V) (n : Nat) : List zz_V := zz_sl as ++ List.replicate (n - (zz_sl as).length) zU
theorem zz_cat1 (X : zz_X) (v : zz_V) : (zz_toV X v).category = match v with
  | .inr (.inl _) => 2
  | _ => 1 := by
  rcases v with i | i | q | n
  · rfl
  · rfl
  · rfl
  · match n with
    | 0 => rfl
    | 1 => rfl
    | n + 2 => rfl
theorem zz_sl_len (X : zz_X) : ∀ as : List zz_V, (lg_sl (as.map (zz_toV X))).length = (zz_sl as).length
  | [] => rfl
  | v :: r => by
    have ih := zz_sl_len X r
    have e := zz_cat1 X v
    show (lg_sl (zz_toV X v :: r.map (zz_toV X))).length = _
    unfold lg_sl at ih ⊢
    rw [List.flatMap_cons, List.length_append, ih]
    rcases v with i | i | q | n
    · rw [if_neg (by rw [e]; exact (by decide : ¬ (1 : Nat) = 2))]; show 1 + _ = (zz_sl r).length + 1; omega
    · rw [if_pos (by rw [e])]; show 2 + _ = (zz_sl r).length + 1 + 1; omega
    · rw [if_neg (by rw [e]; exact (by decide : ¬ (1 : Nat) = 2))]; show 1 + _ = (zz_sl r).length + 1; omega
    · rw [if_neg (by rw [e]; exact (by decide : ¬ (1 : Nat) = 2))]; show 1 + _ = (zz_sl r).length + 1; omega
theorem zz_sl_at (X : zz_X) : ∀ (as : List zz_V) (i k : Nat) (v : zz_V), (zz_sl as)[k]? = some v → v ≠ zU → (i + k, zz_toV X v) ∈ lv_args i (as.map (zz_toV X))
  | [], i, k, v, h, _ => by simp [zz_sl] at h
  | w :: r, i, k, v, h, hv => by
    have ih := zz_sl_at X r
    have e := zz_cat1 X w
    show (i + k, zz_toV X v) ∈ lv_args i (zz_toV X w :: r.map (zz_toV X))
    unfold lv_args
    rcases w with x | x | q | n
    · rw [e]
      cases k with
      | zero => cases h; exact List.mem_cons_self
      | succ k => exact List.mem_cons_of_mem _ (by have := ih (i + 1) k v h hv; rw [show i + (k + 1) = i + 1 + k by omega]; exact this)
    · rw [e]
      match k, h with
      | 0, h => cases h; exact List.mem_cons_self
      | 1, h => cases h; exact absurd rfl hv
      | k + 2, h => exact List.mem_cons_of_mem _ (by have := ih (i + 2) k v h hv; rw [show i + (k + 2) = i + 2 + k by omega]; exact this)
    · rw [e]
      cases k with
      | zero => cases h; exact List.mem_cons_self
      | succ k => exact List.mem_cons_of_mem _ (by have := ih (i + 1) k v h hv; rw [show i + (k + 1) = i + 1 + k by omega]; exact this)
    · rw [e]
      cases k with
      | zero => cases h; exact List.mem_cons_self
      | succ k => exact List.mem_cons_of_mem _ (by have := ih (i + 1) k v h hv; rw [show i + (k + 1) = i + 1 + k by omega]; exact this)
theorem zz_sl_mem : ∀ (as : List zz_V) (v : zz_V), v ∈ zz_sl as → v = zU ∨ v ∈ as
  | [], v, h => by cases h
  | w :: r, v, h => by
    have ih := zz_sl_mem r v
    rcases w with x | x | q | n
    · rcases List.mem_cons.mp h with h | h
      · exact Or.inr (by rw [h]; exact List.mem_cons_self)
      · exact (ih h).imp id (List.mem_cons_of_mem _)
    · rcases List.mem_cons.mp h with h | h
      · exact Or.inr (by rw [h]; exact List.mem_cons_self)
      · rcases List.mem_cons.mp h with h | h
        · exact Or.inl h
        · exact (ih h).imp id (List.mem_cons_of_mem _)
    · rcases List.mem_cons.mp h with h | h
      · exact Or.inr (by rw [h]; exact List.mem_cons_self)
      · exact (ih h).imp id (List.mem_cons_of_mem _)
    · rcases List.mem_cons.mp h with h | h
      · exact Or.inr (by rw [h]; exact List.mem_cons_self)
      · exact (ih h).imp id (List.mem_cons_of_mem _)
/-- from the entry: a contract -/
theorem zz_mk {as : List zz_V} {stat : Bool} {t n : Nat} (hok : zz_okP P) (hc : zz_okC P stat t n) (hn : as.length = n) (hth : zz_th stat t as = true) (hle : (zz_sl as).length ≤ P.maxL) (hG : zz_G X d P 0 (zz_ent as P.maxL) [] σ Post) : zz_T X d P as σ Post := by
  refine ⟨stat, t, n, hc, hn, hth, Met.ofW (cc := P.bytes) (maxL := P.maxL) (ret := P.ret) hc.2.2.2.1 rfl ?_⟩
  intro p e s m args below meth c s₁ B hml hv
  obtain ⟨rfl, hoks, hR, hE⟩ := hv
  have hts : ∀ w ∈ zz_tb, w.before (as.map (zz_toV X)).toArray s = true := fun w hw => atoms_spec (ws := Cond.code P.y P.bytes P.maxL P.ret :: zz_tb) B.pre w (List.mem_cons_of_mem _ hw)
  have hown : s.vm.findClass P.y.cls = some m.cls := findClass_of_methodNamed B.named
  have hl := lv_entry (as.map (zz_toV X)) (n := P.maxL) (by rw [zz_sl_len]; exact hle)
  rw [lg_entry_eq]
  have hlen : (zz_ent as P.maxL).length = P.maxL := by
    unfold zz_ent
    rw [List.length_append, List.length_replicate]
    omega
  have hl2 : lv_has ((lg_sl (as.map (zz_toV X)) ++ List.replicate (P.maxL - (lg_sl (as.map (zz_toV X))).length) Slot.unset).toArray) P.maxL (zz_lv X (zz_ent as P.maxL)) := by
    refine ⟨hl.1, hl.2.1, fun q hq => hl.2.2 q ?_⟩
    obtain ⟨v, h1, h2, h3⟩ := zz_lv_of hq
    unfold zz_ent at h1
    by_cases hk : q.1 < (zz_sl as).length
    · rw [List.getElem?_append_left hk] at h1
      have := zz_sl_at X as 0 q.1 v h1 h2
      rw [Nat.zero_add, ← h3] at this
      exact this
    · rw [List.getElem?_append_right (by omega)] at h1
      have := List.mem_of_getElem? h1
      exact absurd (List.eq_of_mem_replicate this) h2
  have hls : ∀ v ∈ zz_ent as P.maxL, zz_ok X v := by
    intro v hv
    unfold zz_ent at hv
    rcases List.mem_append.mp hv with h | h
    · rcases zz_sl_mem as v h with h | h
      · rw [h]; exact Or.inl (by omega)
      · exact hoks v h
    · rw [List.eq_of_mem_replicate h]; exact Or.inl (by omega)
  have := hG p e s m (as.map (zz_toV X)).toArray below meth c s.heap [] _ hok B.exec B.bytes hml B.returns B.notSynchronized hown hts hE va_S.rf hR hl2 hlen hls (by intro v hv; cases hv)
  rw [hc.2.2.2.2.2.1] at this
  exact this
end ZE
theorem zz_good {y : MethodName} {b : ByteArray} {n : Nat} {r : Option FieldType} (h : Cond.code y b n r ∈ zz_tb) : GoodIn zz_tb (Cond.code y b n r :: zz_tb) := by
  intro w hw
  rcases List.mem_cons.mp hw with rfl | hw
  · exact ⟨h, Or.inl rfl⟩
  · exact ⟨hw, good_of_word (List.mem_filter.mp hw).2⟩
end
section
/-! CALLS over zz_G. -/
def zz_take : Nat → List zz_V → List zz_V → Option (List zz_V × List zz_V)
  | 0, acc, st => some (acc, st)
  | n + 1, acc, v :: st => zz_take n (v :: acc) st
  | _ + 1, _, [] => none
theorem zz_take_ok : ∀ (n : Nat) (acc st as r : List zz_V), zz_take n acc st = some (as, r) → as.reverse ++ r = acc.reverse ++ st ∧ as.length = acc.length + n
  | 0, acc, st, as, r, h => by
    cases h
    exact ⟨rfl, rfl⟩
  | n + 1, acc, [], as, r, h => by cases h
  | n + 1, acc, v :: st, as, r, h => by
    obtain ⟨h1, h2⟩ := zz_take_ok n (v :: acc) st as r h
    rw [List.reverse_cons, List.append_assoc] at h1
    refine ⟨h1, ?_⟩
    rw [h2, List.length_cons]
    omega
def zz_cat : List zz_V → Nat
  | [] => 0
  | .inr (.inl _) :: r => 2 + zz_cat r
  | _ :: r => 1 + zz_cat r
theorem zz_cat_of (X : zz_X) : ∀ r : List zz_V, ((r.map (zz_toV X)).map fun v => v.category).sum = zz_cat r
  | [] => rfl
  | w :: r => by
    have ih := zz_cat_of X r
    have e := zz_cat1 X w
    simp only [List.map_cons, List.sum_cons]
    rw [ih, e]
    rcases w with i | i | q | n <;> rfl
section ZC
variable {X : zz_X} {d d' : Nat} {P P' : zz_P} {j : Nat} {ls st : List zz_V} {σ : zz_M} {Post Post' : Option zz_V → zz_M → Prop}
theorem zz_back {p : Program} {e : Env} {s : State} {m : MethodId} {args : Array Value} {below : List Frame} {meth : Method} {c : Code} {H : Heap} {locs : List Loc} {lm : Array Slot} {as r : List zz_V} {a2 : Array Value} {pc : Nat}
    (hok : zz_okP P) (hx : p.tables.exec = Jvm.exec) (hb : c.code = P.bytes) (hml : c.maxLocals = P.maxL) (hr : meth.sig.returnType = P.ret) (hlk : meth.locks = false) (hown : s.vm.findClass P.y.cls = some m.cls) (hts : ∀ w ∈ zz_tb, w.before args s = true) (hE : zz_E X s s.heap) (hS : va_S (zz_A X) s.heap H locs) (hl : lv_has lm P.maxL (zz_lv X ls)) (hlen : ls.length = P.maxL) (hls : ∀ v ∈ ls, zz_ok X v) (hrest : ∀ v ∈ r, zz_ok X v) (hpc : zz_pc P (j + 1) = pc + 3)
    (hrun : va_Run p X.l e (zz_room d) s m args below meth c H locs 0 0 0 0 (F0 m pc lm (st.map (zz_toV X))) (r.map (zz_toV X)) (zz_Q X Post' a2) (zz_A X))
    (k : ∀ ro σ', Post' ro σ' → zz_G X d P (j + 1) ls (ro.toList ++ r) σ' Post) :
    W p X.l e (zz_room d) s m args below meth c H locs 0 0 (MQ below (zz_Q X Post) args s 0 0 (zz_A X)) (F0 m pc lm (st.map (zz_toV X))) := by
  intro T hT X0
  obtain ⟨v, st₀, t, T', L, h0, X', hL, e1, e2, ⟨⟨ro, σ', hv, hokr, hp, hR'⟩, hF⟩, st'⟩ := hrun T hT X0
  have hv : v = ro.map (zz_toV X) := by injection hv
  subst hv
  obtain ⟨hz, hk⟩ := hF
  rw [h0] at hz hk
  have hS' : va_S (zz_A X) s.heap T'.heap (locs ++ L) := ⟨Nat.le_trans hS.1 (by rw [e1]; exact hz), fun q h1 h2 => by rw [e1, hk q (Nat.lt_of_lt_of_le h1 hS.1) h2]; exact hS.2.1 q h1 h2, fun q hq => by
    rcases List.mem_append.mp hq with h | h
    · exact hS.2.2 q h
    · exact hL q h⟩
  have hst' : ∀ w ∈ ro.toList ++ r, zz_ok X w := by
    intro w hw
    rcases List.mem_append.mp hw with h | h
    · exact hokr w (by simpa using h)
    · exact hrest w h
  obtain ⟨t2, a1, b1⟩ := k ro σ' hp p e s m args below meth c T'.heap (locs ++ L) lm hok hx hb hml hr hlk hown hts hE hS' (by rw [e1]; exact hR') hl hlen hls hst' T' rfl X'
  refine ⟨t2, st' t2 ?_, b1⟩
  have ef : (ro.map (zz_toV X)).toList ++ r.map (zz_toV X) = (ro.toList ++ r).map (zz_toV X) := by
    cases ro <;> simp
  rw [hpc] at a1
  rw [ef]
  exact a1
def zz_v1 (code : List zz_C) (j : Nat) : Option Nat := match code[j]? with
  | some e => match e.2.1, e.2.2.2 with
    | .invokevirtual _, [n] => match zz_isS n with
      | false => some n
      | true => none
    | _, _ => none
  | none => none
theorem zz_Pc_pre {s U : State} {H : Heap} {locs : List Loc} {as : List zz_V} (hE : zz_E X s s.heap) (hS : va_S (zz_A X) s.heap H locs) (hR : zz_R X σ H) (hoks : ∀ w ∈ as, zz_ok X w) (hU : U.heap = H) (hW : s.WarmedH U.vm) : zz_Pc X as σ (as.map (zz_toV X)).toArray U := by
  refine ⟨rfl, hoks, by rw [hU]; exact hR, ?_⟩
  rw [hU]
  exact zz_E.warm hW (zz_E.kept hE hS.1 hS.2.1)
theorem zz_Pc_blind {as : List zz_V} : FrameBlind (zz_Pc X as σ) := by
  intro a U g mk h
  obtain ⟨h1, h2, h3, h4⟩ := h
  exact ⟨h1, h2, h3, zz_E.same (u := U) (U := U.calling g mk a) rfl h4⟩
/-- a call of a method of ours -/
theorem zz_cv {n : Nat} {as r : List zz_V} (h : zz_v1 P.code j = some P'.no) (hst0 : zz_take n [] st = some (as, r)) (hT : zz_T X d' P' as σ Post') (hd : d' < d) (hcat : zz_cat r ≤ 8) (hmx : P'.maxL ≤ 20) (k : ∀ ro σ', Post' ro σ' → zz_G X d P (j + 1) ls (ro.toList ++ r) σ' Post) : zz_G X d P j ls st σ Post := by
  intro p e s m args below meth c H locs lm hok hx hb hml hr hlk hown hts hE hS hR hl hlen hls hst
  obtain ⟨e1, e2⟩ := zz_take_ok n [] st as r hst0
  obtain ⟨stat, t, n', hc, hn, hth, hM⟩ := hT
  obtain ⟨c1, c2, c3, c4, c5, c6, c7⟩ := hc
  unfold zz_v1 at h
  cases he : P.code[j]? with
  | none => rw [he] at h; cases h
  | some en =>
    rw [he] at h
    dsimp only at h
    obtain ⟨pc, ins, len, ts⟩ := en
    obtain ⟨r1, r2, r3, r4, r5⟩ := zz_row hok he
    rw [r5]
    dsimp only at h r1 r2 r3 r4 ⊢
    split at h
    · rename_i idx mno
      split at h
      case h_2 => cases h
      rename_i hnS
      have hno : mno = P'.no := by injection h
      subst hno
      dsimp only [zz_ck] at r3
      have el := of_decide_eq_true r3
      subst el
      have hlink := r4 (.methodLink P.y.cls idx (zz_mn P'.no)) List.mem_cons_self
      rw [c3.1] at hlink
      simp only [List.reverse_nil, List.nil_append] at e1
      have hoks : ∀ w ∈ as, zz_ok X w := fun w hw => hst w (by rw [← e1]; exact List.mem_append_left _ (List.mem_reverse.mpr hw))
      have hrest : ∀ w ∈ r, zz_ok X w := fun w hw => hst w (by rw [← e1]; exact List.mem_append_right _ hw)
      have r2' : zz_pc P (j + 1) = pc + 3 := r2 rfl
      cases stat with
      | true =>
        rw [c3.2] at hnS
        cases hnS
      | false =>
        obtain ⟨c7, c8, c9, c10⟩ := c7
        match as, hth, hn with
        | .inr (.inr (.inl (t', p1, q1, a))) :: As, hth, hn =>
          have ht : t' = t := Nat.eq_of_beq_eq_true hth
          subst ht
          obtain ⟨i0, hi0, ha, hK⟩ := hoks _ List.mem_cons_self
          dsimp only at ha hK
          subst ha
          have h13 : t' < 13 := by
            rcases hct : zz_cl[t']? with _ | q
            · rw [hct] at c10; cases c10
            · exact (List.getElem?_eq_some_iff.mp hct).1
          obtain ⟨C, Tt, ty, hcc, hin, hty, hnm⟩ := zz_cl_at h13
          rw [hcc] at c10
          have hC : C = P'.y.cls := by injection c10
          subst hC
          have hat := zz_ws_at X σ hi0
          rw [hK, zz_ce_o h13] at hat
          have hstack : st.map (zz_toV X) = (As.map (zz_toV X)).reverse ++ .ref (X.b + i0) :: r.map (zz_toV X) := by
            rw [← e1]
            simp [zz_toV, List.map_reverse]
          refine zz_back (as := .inr (.inr (.inl (t', p1, q1, X.b + i0))) :: As) (r := r) hok hx hb hml hr hlk hown hts hE hS hl hlen hls hrest r2' (va_runV (nL := P.maxL) (As := As.map (zz_toV X)) (rest := r.map (zz_toV X)) (C := P'.y.cls) (b := X.b + i0) (n := As.length) ⟨hx, hb, hml, hown, hts⟩ hM ⟨⟨rfl, rfl, ?_, ?_, pay_in hts (zz_good c1), List.mem_cons_self, hts _ c1, hts _ c2, c5, ?_, hts _ hlink⟩, hts _ c7, hts _ c8⟩ ⟨zz_Pc_blind, va_recv hE.1 hR.1 hcc hat, fun U hU hW => zz_Pc_pre (as := .inr (.inr (.inl (t', p1, q1, X.b + i0))) :: As) hE hS hR hoks hU hW⟩ rfl (List.length_map ..) hl.1 hstack (lv_room (by rw [zz_cat_of]; exact hcat)) r1 ⟨Nat.zero_le _, Nat.zero_le _⟩) k
          · show d' + 1 ≤ d
            omega
          · show 8 + (P'.maxL + 11) + 40 * d' ≤ 40 * d
            omega
          · intro sig hsig
            rw [hsig] at c9
            have : sig.parameters.length + 1 = n' := by injection c9
            simp only [List.length_cons] at hn
            omega
        | [], hth, _ => cases hth
        | .inl _ :: _, hth, _ => cases hth
        | .inr (.inl _) :: _, hth, _ => cases hth
        | .inr (.inr (.inr _)) :: _, hth, _ => cases hth
    · cases h
def zz_v2 (code : List zz_C) (j : Nat) : Option Nat := match code[j]? with
  | some e => match e.2.1, e.2.2.2 with
    | .invokestatic _, [n] => match zz_isS n with
      | true => some n
      | false => none
    | .invokestatic _, [n, _] => match zz_isS n with
      | true => some n
      | false => none
    | _, _ => none
  | none => none
theorem zz_cs {n : Nat} {as r : List zz_V} (h : zz_v2 P.code j = some P'.no) (hst0 : zz_take n [] st = some (as, r)) (hT : zz_T X d' P' as σ Post') (hd : d' < d) (hcat : zz_cat r ≤ 8) (hmx : P'.maxL ≤ 20) (k : ∀ ro σ', Post' ro σ' → zz_G X d P (j + 1) ls (ro.toList ++ r) σ' Post) : zz_G X d P j ls st σ Post := by
  intro p e s m args below meth c H locs lm hok hx hb hml hr hlk hown hts hE hS hR hl hlen hls hst
  obtain ⟨e1, e2⟩ := zz_take_ok n [] st as r hst0
  obtain ⟨stat, t, n', hc, hn, hth, hM⟩ := hT
  obtain ⟨c1, c2, c3, c4, c5, c6, c7⟩ := hc
  simp only [List.reverse_nil, List.nil_append] at e1
  have hoks : ∀ w ∈ as, zz_ok X w := fun w hw => hst w (by rw [← e1]; exact List.mem_append_left _ (List.mem_reverse.mpr hw))
  have hrest : ∀ w ∈ r, zz_ok X w := fun w hw => hst w (by rw [← e1]; exact List.mem_append_right _ hw)
  have hstack : st.map (zz_toV X) = (as.map (zz_toV X)).reverse ++ r.map (zz_toV X) := by
    rw [← e1]
    simp [List.map_reverse]
  have hroom : d' + 1 ≤ d ∧ 8 + (P'.maxL + 11) + 40 * d' ≤ 40 * d := by omega
  unfold zz_v2 at h
  cases he : P.code[j]? with
  | none => rw [he] at h; cases h
  | some en =>
    rw [he] at h
    dsimp only at h
    obtain ⟨pc, ins, len, ts⟩ := en
    obtain ⟨r1, r2, r3, r4, r5⟩ := zz_row hok he
    rw [r5]
    dsimp only at h r1 r2 r3 r4 ⊢
    split at h
    · rename_i idx mno
      split at h
      case h_2 => cases h
      rename_i hnS
      have hno : mno = P'.no := by injection h
      subst hno
      simp only [zz_ck, Bool.and_eq_true, decide_eq_true_eq] at r3
      obtain ⟨el, r3⟩ := r3
      subst el
      have hlink := r4 (.methodLink P.y.cls idx (zz_mn P'.no)) List.mem_cons_self
      rw [c3.1] at hlink
      have r2' : zz_pc P (j + 1) = pc + 3 := r2 rfl
      cases stat with
      | false =>
        rw [c3.2] at hnS
        cases hnS
      | true =>
        obtain ⟨c7, c8⟩ := c7
        refine zz_back (as := as) (r := r) hok hx hb hml hr hlk hown hts hE hS hl hlen hls hrest r2' (va_runS (nL := P.maxL) (As := as.map (zz_toV X)) (rest := r.map (zz_toV X)) (n := as.length) ⟨hx, hb, hml, hown, hts⟩ hM ⟨⟨rfl, rfl, hroom.1, hroom.2, pay_in hts (zz_good c1), List.mem_cons_self, hts _ c1, hts _ c2, c5, ?_, hts _ hlink⟩, hts _ c7⟩ ⟨zz_Pc_blind, fun U hU hW => zz_Pc_pre (as := as) hE hS hR hoks hU hW⟩ rfl (List.length_map ..) hl.1 hstack (lv_room (by rw [zz_cat_of]; exact hcat)) r1 ⟨Nat.zero_le _, Nat.zero_le _⟩) k
        intro sig hsig
        rw [hsig] at c8
        have : sig.parameters.length = n' := by injection c8
        omega
    · rename_i idx mno x
      split at h
      case h_2 => cases h
      rename_i hnS
      have hno : mno = P'.no := by injection h
      subst hno
      simp only [zz_ck, Bool.and_eq_true, decide_eq_true_eq] at r3
      obtain ⟨el, r3⟩ := r3
      subst el
      have hlink := hE.2.2.1.2 _ _ r3
      dsimp only at hlink
      rw [c3.1] at hlink
      have r2' : zz_pc P (j + 1) = pc + 3 := r2 rfl
      cases stat with
      | false =>
        rw [c3.2] at hnS
        cases hnS
      | true =>
        obtain ⟨c7, c8⟩ := c7
        refine zz_back (as := as) (r := r) hok hx hb hml hr hlk hown hts hE hS hl hlen hls hrest r2' (va_runSN (nL := P.maxL) (As := as.map (zz_toV X)) (rest := r.map (zz_toV X)) (n := as.length) ⟨hx, hb, hml, hown, hts⟩ hM ⟨⟨⟨rfl, rfl, hroom.1, hroom.2, pay_in hts (zz_good c1), List.mem_cons_self⟩, hts _ c1, hts _ c2, c5, ?_, va_Nw.use rfl hlink⟩, hts _ c7, trivial⟩ ⟨zz_Pc_blind, fun U hU hW => zz_Pc_pre (as := as) hE hS hR hoks hU hW⟩ rfl (List.length_map ..) hl.1 hstack (lv_room (by rw [zz_cat_of]; exact hcat)) r1 ⟨Nat.zero_le _, Nat.zero_le _⟩) k
        intro sig hsig
        rw [hsig] at c8
        have : sig.parameters.length = n' := by injection c8
        omega
    · cases h
end ZC
theorem zz_okS {P : zz_P} {n : Nat} (h : ∀ w ∈ [Cond.code P.y P.bytes P.maxL P.ret, Cond.initialized P.y.cls, Cond.static P.y], w ∈ zz_tb) (h3 : zz_mn P.no = P.y) (h4 : zz_isS P.no = true) (h5 : plainName P.y.cls = true) (h6 : P.y.cls ≠ "java/lang/invoke/MethodHandle" ∧ P.y.cls ≠ "java/lang/invoke/VarHandle") (h7 : zz_pc P 0 = 0) (h8 : (parseMethodDescriptor P.y.desc).map (fun d => d.parameters.length) = some n) : zz_okC P true 0 n :=
  ⟨h _ (List.Mem.head _), h _ (List.Mem.tail _ (List.Mem.head _)), ⟨h3, h4⟩, h5, h6, h7, h _ (List.Mem.tail _ (List.Mem.tail _ (List.Mem.head _))), h8⟩
theorem zz_okV {P : zz_P} {t n : Nat} (h : ∀ w ∈ [Cond.code P.y P.bytes P.maxL P.ret, Cond.initialized P.y.cls, Cond.instanceMethod P.y, Cond.selects P.y.cls P.y P.y], w ∈ zz_tb) (h3 : zz_mn P.no = P.y) (h4 : zz_isS P.no = false) (h5 : plainName P.y.cls = true) (h6 : P.y.cls ≠ "java/lang/invoke/MethodHandle" ∧ P.y.cls ≠ "java/lang/invoke/VarHandle") (h7 : zz_pc P 0 = 0) (h8 : (parseMethodDescriptor P.y.desc).map (fun d => d.parameters.length + 1) = some n) (h9 : zz_cl[t]?.map (fun c => c.1) = some P.y.cls) : zz_okC P false t n :=
  ⟨h _ (List.Mem.head _), h _ (List.Mem.tail _ (List.Mem.head _)), ⟨h3, h4⟩, h5, h6, h7, h _ (List.Mem.tail _ (List.Mem.tail _ (List.Mem.head _))), h _ (List.Mem.tail _ (List.Mem.tail _ (List.Mem.tail _ (List.Mem.head _)))), h8, h9⟩
end
section
/-! MEMBERS OF THE JDK: length, charAt of the texts; max, min, abs. -/
def zz_Q0 (v : Option Value) : Array Value → State → Outcome → State → Prop := fun _ st o t => o = .returned v ∧ t.heap = st.heap
def zz_no : Nat → Prop := fun _ => False
section ZJ
variable {p : Program} {l : Launch} {e : Env} {R : Room} {s : State} {m : MethodId} {args : Array Value} {below : List Frame} {meth : Method} {c : Code} {H : Heap} {locs : List Loc} {cells slots : Nat} {Q : State → Prop}
theorem zz_pcall {pc : Nat} {lm : Array Slot} {st0 rest : List Value} {v : Option Value} {a : Array Value} (hr : va_Run p l e R s m args below meth c H locs cells slots 0 0 (F0 m pc lm st0) rest (zz_Q0 v a) zz_no) (kk : W p l e R s m args below meth c H locs cells slots Q (F0 m (pc + 3) lm (v.toList ++ rest))) : W p l e R s m args below meth c H locs cells slots Q (F0 m pc lm st0) := by
  intro T hT X0
  obtain ⟨v', st₀, t, T', L, h0, X', hL, e1, e2, ⟨hv, hh⟩, st⟩ := hr T hT X0
  have hv : v' = v := by injection hv
  subst hv
  have hL0 : L = [] := by
    cases L with
    | nil => rfl
    | cons q r => exact (hL q List.mem_cons_self).elim
  subst hL0
  rw [List.append_nil] at X'
  obtain ⟨t2, a1, b1⟩ := kk T' (by rw [e1, hh, h0]) X'
  exact ⟨t2, st t2 a1, b1⟩
end ZJ
def zz_P0 (X : zz_X) (as : List Value) : Array Value → State → Prop := fun v U => v = as.toArray ∧ zz_E X U U.heap
theorem zz_P0_blind {X : zz_X} {as : List Value} : FrameBlind (zz_P0 X as) := fun a U g mk h => ⟨h.1, zz_E.same (u := U) (U := U.calling g mk a) rfl h.2⟩
theorem zz_P0_pre {X : zz_X} {s U : State} {H : Heap} {locs : List Loc} {as : List Value} (hE : zz_E X s s.heap) (hS : va_S (zz_A X) s.heap H locs) (hU : U.heap = H) (hW : s.WarmedH U.vm) : zz_P0 X as as.toArray U := by
  refine ⟨rfl, ?_⟩
  rw [hU]
  exact zz_E.warm hW (zz_E.kept hE hS.1 hS.2.1)
def zy_coder : MethodName := ⟨"java/lang/String", "coder", "()B"⟩
theorem zd_coder_0 : decode prog_16_method_152_code 0 = .ok (.getstatic 38, 3) := by decide +kernel
theorem zd_coder_3 : decode prog_16_method_152_code 3 = .ok (.ifCond .eq 10, 3) := by decide +kernel
theorem zd_coder_6 : decode prog_16_method_152_code 6 = .ok (.aload_n 0, 1) := by decide +kernel
theorem zd_coder_7 : decode prog_16_method_152_code 7 = .ok (.getfield 15, 3) := by decide +kernel
theorem zd_coder_10 : decode prog_16_method_152_code 10 = .ok (.goto 4, 3) := by decide +kernel
theorem zd_coder_14 : decode prog_16_method_152_code 14 = .ok (.ireturn, 1) := by decide +kernel
def zy_len : MethodName := ⟨"java/lang/String", "length", "()I"⟩
theorem zd_len_0 : decode prog_16_method_54_code 0 = .ok (.aload_n 0, 1) := by decide +kernel
theorem zd_len_1 : decode prog_16_method_54_code 1 = .ok (.getfield 9, 3) := by decide +kernel
theorem zd_len_4 : decode prog_16_method_54_code 4 = .ok (.arraylength, 1) := by decide +kernel
theorem zd_len_5 : decode prog_16_method_54_code 5 = .ok (.aload_n 0, 1) := by decide +kernel
theorem zd_len_6 : decode prog_16_method_54_code 6 = .ok (.invokevirtual 335, 3) := by decide +kernel
theorem zd_len_9 : decode prog_16_method_54_code 9 = .ok (.ishr, 1) := by decide +kernel
theorem zd_len_10 : decode prog_16_method_54_code 10 = .ok (.ireturn, 1) := by decide +kernel
def zy_lat : MethodName := ⟨"java/lang/String", "isLatin1", "()Z"⟩
theorem zd_lat_0 : decode prog_16_method_154_code 0 = .ok (.getstatic 38, 3) := by decide +kernel
theorem zd_lat_3 : decode prog_16_method_154_code 3 = .ok (.ifCond .eq 14, 3) := by decide +kernel
theorem zd_lat_6 : decode prog_16_method_154_code 6 = .ok (.aload_n 0, 1) := by decide +kernel
theorem zd_lat_7 : decode prog_16_method_154_code 7 = .ok (.getfield 15, 3) := by decide +kernel
theorem zd_lat_10 : decode prog_16_method_154_code 10 = .ok (.ifCond .ne 7, 3) := by decide +kernel
theorem zd_lat_13 : decode prog_16_method_154_code 13 = .ok (.iconst 1, 1) := by decide +kernel
theorem zd_lat_14 : decode prog_16_method_154_code 14 = .ok (.goto 4, 3) := by decide +kernel
theorem zd_lat_18 : decode prog_16_method_154_code 18 = .ok (.ireturn, 1) := by decide +kernel
def zy_chk : MethodName := ⟨"jdk/internal/util/Preconditions", "checkIndex", "(IILjava/util/function/BiFunction;)I"⟩
theorem zd_chk_0 : decode prog_19_method_11_code 0 = .ok (.iload_n 0, 1) := by decide +kernel
theorem zd_chk_1 : decode prog_19_method_11_code 1 = .ok (.ifCond .lt 8, 3) := by decide +kernel
theorem zd_chk_4 : decode prog_19_method_11_code 4 = .ok (.iload_n 0, 1) := by decide +kernel
theorem zd_chk_5 : decode prog_19_method_11_code 5 = .ok (.iload_n 1, 1) := by decide +kernel
theorem zd_chk_6 : decode prog_19_method_11_code 6 = .ok (.if_icmp .lt 10, 3) := by decide +kernel
theorem zd_chk_16 : decode prog_19_method_11_code 16 = .ok (.iload_n 0, 1) := by decide +kernel
theorem zd_chk_17 : decode prog_19_method_11_code 17 = .ok (.ireturn, 1) := by decide +kernel
def zy_sck : MethodName := ⟨"java/lang/String", "checkIndex", "(II)V"⟩
theorem zd_sck_0 : decode prog_16_method_155_code 0 = .ok (.iload_n 0, 1) := by decide +kernel
theorem zd_sck_1 : decode prog_16_method_155_code 1 = .ok (.iload_n 1, 1) := by decide +kernel
theorem zd_sck_2 : decode prog_16_method_155_code 2 = .ok (.getstatic 1053, 3) := by decide +kernel
theorem zd_sck_5 : decode prog_16_method_155_code 5 = .ok (.invokestatic 1059, 3) := by decide +kernel
theorem zd_sck_8 : decode prog_16_method_155_code 8 = .ok (.pop, 1) := by decide +kernel
theorem zd_sck_9 : decode prog_16_method_155_code 9 = .ok (.return_, 1) := by decide +kernel
def zy_lch : MethodName := ⟨"java/lang/StringLatin1", "charAt", "([BI)C"⟩
theorem zd_lch_0 : decode prog_17_method_2_code 0 = .ok (.iload_n 1, 1) := by decide +kernel
theorem zd_lch_1 : decode prog_17_method_2_code 1 = .ok (.aload_n 0, 1) := by decide +kernel
theorem zd_lch_2 : decode prog_17_method_2_code 2 = .ok (.arraylength, 1) := by decide +kernel
theorem zd_lch_3 : decode prog_17_method_2_code 3 = .ok (.invokestatic 9, 3) := by decide +kernel
theorem zd_lch_6 : decode prog_17_method_2_code 6 = .ok (.aload_n 0, 1) := by decide +kernel
theorem zd_lch_7 : decode prog_17_method_2_code 7 = .ok (.iload_n 1, 1) := by decide +kernel
theorem zd_lch_8 : decode prog_17_method_2_code 8 = .ok (.baload, 1) := by decide +kernel
theorem zd_lch_9 : decode prog_17_method_2_code 9 = .ok (.sipush 255, 3) := by decide +kernel
theorem zd_lch_12 : decode prog_17_method_2_code 12 = .ok (.iand, 1) := by decide +kernel
theorem zd_lch_13 : decode prog_17_method_2_code 13 = .ok (.i2c, 1) := by decide +kernel
theorem zd_lch_14 : decode prog_17_method_2_code 14 = .ok (.ireturn, 1) := by decide +kernel
def zy_chr : MethodName := ⟨"java/lang/String", "charAt", "(I)C"⟩
theorem zd_chr_0 : decode prog_16_method_56_code 0 = .ok (.aload_n 0, 1) := by decide +kernel
theorem zd_chr_1 : decode prog_16_method_56_code 1 = .ok (.invokevirtual 492, 3) := by decide +kernel
theorem zd_chr_4 : decode prog_16_method_56_code 4 = .ok (.ifCond .eq 12, 3) := by decide +kernel
theorem zd_chr_7 : decode prog_16_method_56_code 7 = .ok (.aload_n 0, 1) := by decide +kernel
theorem zd_chr_8 : decode prog_16_method_56_code 8 = .ok (.getfield 9, 3) := by decide +kernel
theorem zd_chr_11 : decode prog_16_method_56_code 11 = .ok (.iload_n 1, 1) := by decide +kernel
theorem zd_chr_12 : decode prog_16_method_56_code 12 = .ok (.invokestatic 495, 3) := by decide +kernel
theorem zd_chr_15 : decode prog_16_method_56_code 15 = .ok (.ireturn, 1) := by decide +kernel
set_option maxRecDepth 100000 in
theorem zv_c_coder : Cond.code zy_coder prog_16_method_152_code 1 (some .byte) ∈ zz_tb := zz_mem_r (ws := [Cond.code zy_coder prog_16_method_152_code 1 (some .byte)]) [643] rfl (by decide +kernel) _ List.mem_cons_self
set_option maxRecDepth 100000 in
theorem zv_c_len : Cond.code zy_len prog_16_method_54_code 1 (some .int) ∈ zz_tb := zz_mem_r (ws := [Cond.code zy_len prog_16_method_54_code 1 (some .int)]) [639] rfl (by decide +kernel) _ List.mem_cons_self
set_option maxRecDepth 100000 in
theorem zv_c_lat : Cond.code zy_lat prog_16_method_154_code 1 (some .boolean) ∈ zz_tb := zz_mem_r (ws := [Cond.code zy_lat prog_16_method_154_code 1 (some .boolean)]) [653] rfl (by decide +kernel) _ List.mem_cons_self
set_option maxRecDepth 100000 in
theorem zv_c_chk : Cond.code zy_chk prog_19_method_11_code 3 (some .int) ∈ zz_tb := zz_mem_r (ws := [Cond.code zy_chk prog_19_method_11_code 3 (some .int)]) [664] rfl (by decide +kernel) _ List.mem_cons_self
set_option maxRecDepth 100000 in
theorem zv_c_sck : Cond.code zy_sck prog_16_method_155_code 2 none ∈ zz_tb := zz_mem_r (ws := [Cond.code zy_sck prog_16_method_155_code 2 none]) [659] rfl (by decide +kernel) _ List.mem_cons_self
set_option maxRecDepth 100000 in
theorem zv_c_lch : Cond.code zy_lch prog_17_method_2_code 2 (some .char) ∈ zz_tb := zz_mem_r (ws := [Cond.code zy_lch prog_17_method_2_code 2 (some .char)]) [656] rfl (by decide +kernel) _ List.mem_cons_self
set_option maxRecDepth 100000 in
theorem zv_c_chr : Cond.code zy_chr prog_16_method_56_code 2 (some .char) ∈ zz_tb := zz_mem_r (ws := [Cond.code zy_chr prog_16_method_56_code 2 (some .char)]) [649] rfl (by decide +kernel) _ List.mem_cons_self
set_option maxRecDepth 100000 in
theorem zv_i_str : Cond.initialized "java/lang/String" ∈ zz_tb := zz_mem_r (ws := [Cond.initialized "java/lang/String"]) [110] rfl (by decide +kernel) _ List.mem_cons_self
set_option maxRecDepth 100000 in
theorem zv_i_lat : Cond.initialized "java/lang/StringLatin1" ∈ zz_tb := zz_mem_r (ws := [Cond.initialized "java/lang/StringLatin1"]) [111] rfl (by decide +kernel) _ List.mem_cons_self
set_option maxRecDepth 100000 in
theorem zv_i_pre : Cond.initialized "jdk/internal/util/Preconditions" ∈ zz_tb := zz_mem_r (ws := [Cond.initialized "jdk/internal/util/Preconditions"]) [112] rfl (by decide +kernel) _ List.mem_cons_self
set_option maxRecDepth 100000 in
theorem zv_i_mat : Cond.initialized "java/lang/Math" ∈ zz_tb := zz_mem_r (ws := [Cond.initialized "java/lang/Math"]) [98] rfl (by decide +kernel) _ List.mem_cons_self
set_option maxRecDepth 100000 in
theorem zv_m_len : Cond.instanceMethod zy_len ∈ zz_tb := zz_mem_r (ws := [Cond.instanceMethod zy_len]) [637] rfl (by decide +kernel) _ List.mem_cons_self
set_option maxRecDepth 100000 in
theorem zv_s_len : Cond.selects "java/lang/String" zy_len zy_len ∈ zz_tb := zz_mem_r (ws := [Cond.selects "java/lang/String" zy_len zy_len]) [638] rfl (by decide +kernel) _ List.mem_cons_self
set_option maxRecDepth 100000 in
theorem zv_l_coder : Cond.methodLink "java/lang/String" 335 zy_coder ∈ zz_tb := zz_mem_r (ws := [Cond.methodLink "java/lang/String" 335 zy_coder]) [640] rfl (by decide +kernel) _ List.mem_cons_self
set_option maxRecDepth 100000 in
theorem zv_m_coder : Cond.instanceMethod zy_coder ∈ zz_tb := zz_mem_r (ws := [Cond.instanceMethod zy_coder]) [641] rfl (by decide +kernel) _ List.mem_cons_self
set_option maxRecDepth 100000 in
theorem zv_s_coder : Cond.selects "java/lang/String" zy_coder zy_coder ∈ zz_tb := zz_mem_r (ws := [Cond.selects "java/lang/String" zy_coder zy_coder]) [642] rfl (by decide +kernel) _ List.mem_cons_self
set_option maxRecDepth 100000 in
theorem zv_f_comp : Cond.fieldLink "java/lang/String" 38 "java/lang/String" "COMPACT_STRINGS" "Z" ∈ zz_tb := zz_mem_r (ws := [Cond.fieldLink "java/lang/String" 38 "java/lang/String" "COMPACT_STRINGS" "Z"]) [644] rfl (by decide +kernel) _ List.mem_cons_self
set_option maxRecDepth 100000 in
theorem zv_m_chr : Cond.instanceMethod zy_chr ∈ zz_tb := zz_mem_r (ws := [Cond.instanceMethod zy_chr]) [647] rfl (by decide +kernel) _ List.mem_cons_self
set_option maxRecDepth 100000 in
theorem zv_s_chr : Cond.selects "java/lang/String" zy_chr zy_chr ∈ zz_tb := zz_mem_r (ws := [Cond.selects "java/lang/String" zy_chr zy_chr]) [648] rfl (by decide +kernel) _ List.mem_cons_self
set_option maxRecDepth 100000 in
theorem zv_l_lat : Cond.methodLink "java/lang/String" 492 zy_lat ∈ zz_tb := zz_mem_r (ws := [Cond.methodLink "java/lang/String" 492 zy_lat]) [650] rfl (by decide +kernel) _ List.mem_cons_self
set_option maxRecDepth 100000 in
theorem zv_m_lat : Cond.instanceMethod zy_lat ∈ zz_tb := zz_mem_r (ws := [Cond.instanceMethod zy_lat]) [651] rfl (by decide +kernel) _ List.mem_cons_self
set_option maxRecDepth 100000 in
theorem zv_s_lat : Cond.selects "java/lang/String" zy_lat zy_lat ∈ zz_tb := zz_mem_r (ws := [Cond.selects "java/lang/String" zy_lat zy_lat]) [652] rfl (by decide +kernel) _ List.mem_cons_self
set_option maxRecDepth 100000 in
theorem zv_l_lch : Cond.methodLink "java/lang/String" 495 zy_lch ∈ zz_tb := zz_mem_r (ws := [Cond.methodLink "java/lang/String" 495 zy_lch]) [654] rfl (by decide +kernel) _ List.mem_cons_self
set_option maxRecDepth 100000 in
theorem zv_t_lch : Cond.static zy_lch ∈ zz_tb := zz_mem_r (ws := [Cond.static zy_lch]) [655] rfl (by decide +kernel) _ List.mem_cons_self
set_option maxRecDepth 100000 in
theorem zv_l_sck : Cond.methodLink "java/lang/StringLatin1" 9 zy_sck ∈ zz_tb := zz_mem_r (ws := [Cond.methodLink "java/lang/StringLatin1" 9 zy_sck]) [657] rfl (by decide +kernel) _ List.mem_cons_self
set_option maxRecDepth 100000 in
theorem zv_t_sck : Cond.static zy_sck ∈ zz_tb := zz_mem_r (ws := [Cond.static zy_sck]) [658] rfl (by decide +kernel) _ List.mem_cons_self
set_option maxRecDepth 100000 in
theorem zv_f_pre : Cond.fieldLink "java/lang/String" 1053 "jdk/internal/util/Preconditions" "SIOOBE_FORMATTER" "Ljava/util/function/BiFunction;" ∈ zz_tb := zz_mem_r (ws := [Cond.fieldLink "java/lang/String" 1053 "jdk/internal/util/Preconditions" "SIOOBE_FORMATTER" "Ljava/util/function/BiFunction;"]) [660] rfl (by decide +kernel) _ List.mem_cons_self
set_option maxRecDepth 100000 in
theorem zv_l_chk : Cond.methodLink "java/lang/String" 1059 zy_chk ∈ zz_tb := zz_mem_r (ws := [Cond.methodLink "java/lang/String" 1059 zy_chk]) [662] rfl (by decide +kernel) _ List.mem_cons_self
set_option maxRecDepth 100000 in
theorem zv_t_chk : Cond.static zy_chk ∈ zz_tb := zz_mem_r (ws := [Cond.static zy_chk]) [663] rfl (by decide +kernel) _ List.mem_cons_self
set_option maxRecDepth 100000 in
theorem zv_f_val : Cond.fieldLink "java/lang/String" 9 "java/lang/String" "value" "[B" ∈ zz_tb := zz_mem_r (ws := [Cond.fieldLink "java/lang/String" 9 "java/lang/String" "value" "[B"]) [2040] rfl (by decide +kernel) _ List.mem_cons_self
set_option maxRecDepth 100000 in
theorem zv_f_cod : Cond.fieldLink "java/lang/String" 15 "java/lang/String" "coder" "B" ∈ zz_tb := zz_mem_r (ws := [Cond.fieldLink "java/lang/String" 15 "java/lang/String" "coder" "B"]) [2041] rfl (by decide +kernel) _ List.mem_cons_self
set_option maxRecDepth 100000 in
theorem zv_t_max : Cond.static Lib.Math.max.name ∈ zz_tb := zz_mem_r (ws := [Cond.static Lib.Math.max.name]) [129] rfl (by decide +kernel) _ List.mem_cons_self
set_option maxRecDepth 100000 in
theorem zv_c_max : Cond.code Lib.Math.max.name Lib.Math.max.code 2 (some .int) ∈ zz_tb := zz_mem_r (ws := [Cond.code Lib.Math.max.name Lib.Math.max.code 2 (some .int)]) [130] rfl (by decide +kernel) _ List.mem_cons_self
set_option maxRecDepth 100000 in
theorem zv_t_min : Cond.static Lib.Math.min.name ∈ zz_tb := zz_mem_r (ws := [Cond.static Lib.Math.min.name]) [621] rfl (by decide +kernel) _ List.mem_cons_self
set_option maxRecDepth 100000 in
theorem zv_c_min : Cond.code Lib.Math.min.name Lib.Math.min.code 2 (some .int) ∈ zz_tb := zz_mem_r (ws := [Cond.code Lib.Math.min.name Lib.Math.min.code 2 (some .int)]) [622] rfl (by decide +kernel) _ List.mem_cons_self
set_option maxRecDepth 100000 in
theorem zv_t_abs : Cond.static Lib.Math.abs.name ∈ zz_tb := zz_mem_r (ws := [Cond.static Lib.Math.abs.name]) [1967] rfl (by decide +kernel) _ List.mem_cons_self
set_option maxRecDepth 100000 in
theorem zv_c_abs : Cond.code Lib.Math.abs.name Lib.Math.abs.code 1 (some .int) ∈ zz_tb := zz_mem_r (ws := [Cond.code Lib.Math.abs.name Lib.Math.abs.code 1 (some .int)]) [1968] rfl (by decide +kernel) _ List.mem_cons_self
theorem zz_tx_b : (List.range zz_nS).all (fun i => decide ((zz_tx i).length < 100) && decide (Int32.ofNat (zz_tx i).length >>> ((0 : Int32) &&& 31) = Int32.ofNat (zz_tx i).length) && (List.range (zz_tx i).length).all (fun k => decide (((nI ((zz_tx i).getD k 0) &&& 255).toUInt32 % 65536).toInt32 = nI ((zz_tx i).getD k 0)) && decide (narrow .char (.int (nI ((zz_tx i).getD k 0))) = .int (nI ((zz_tx i).getD k 0))) && decide ((zz_tx i).getD k 0 < 128))) = true := by decide +kernel
theorem zz_shr0 {i : Nat} (hi : i < zz_nS) : Int32.ofNat (zz_tx i).length >>> ((0 : Int32) &&& 31) = Int32.ofNat (zz_tx i).length := by
  have h := List.all_eq_true.mp zz_tx_b i (List.mem_range.mpr hi)
  simp only [Bool.and_eq_true, decide_eq_true_eq] at h
  exact h.1.2
theorem zz_txOk {i : Nat} (hi : i < zz_nS) : (zz_tx i).length < 100 ∧ ∀ k, k < (zz_tx i).length → ((nI ((zz_tx i).getD k 0) &&& 255).toUInt32 % 65536).toInt32 = nI ((zz_tx i).getD k 0) ∧ narrow .char (.int (nI ((zz_tx i).getD k 0))) = .int (nI ((zz_tx i).getD k 0)) ∧ (zz_tx i).getD k 0 < 128 := by
  have h := List.all_eq_true.mp zz_tx_b i (List.mem_range.mpr hi)
  simp only [Bool.and_eq_true, decide_eq_true_eq] at h
  refine ⟨h.1.1, fun k hk => ?_⟩
  have h2 := List.all_eq_true.mp h.2 k (List.mem_range.mpr hk)
  simp only [Bool.and_eq_true, decide_eq_true_eq] at h2
  exact ⟨h2.1.1, h2.1.2, h2.2⟩
set_option maxHeartbeats 2000000 in
theorem zm_coder (X : zz_X) {i : Nat} (hi : i < zz_nS) : Met X.l zy_coder (Cond.code zy_coder prog_16_method_152_code 1 (some .byte) :: zz_tb) (zz_room 1) (zz_P0 X [.ref (X.sa i)]) (zz_Q0 (some (.int 0))) 0 0 zz_no := by
  refine Met.ofW (cc := prog_16_method_152_code) (maxL := 1) (ret := some .byte) (by decide) rfl ?_
  intro p e s m args below meth c s₁ B hml hv
  obtain ⟨rfl, hE⟩ := hv
  have hx := B.exec
  have hb := B.bytes
  have hr := B.returns
  have hts0 := atoms_spec (ws := Cond.code zy_coder prog_16_method_152_code 1 (some .byte) :: zz_tb) B.pre
  have hts : ∀ w ∈ zz_tb, w.before ([.ref (X.sa i)] : List Value).toArray s = true := fun w hw => hts0 w (List.mem_cons_of_mem _ hw)
  have hown : s.vm.findClass zy_coder.cls = some m.cls := findClass_of_methodNamed B.named
  have hlocks := B.notSynchronized
  have hS : va_S (zz_A X) s.heap s.heap [] := va_S.rf
  have hl := lv_entry ([.ref (X.sa i)]) (n := 1) (Nat.le_of_ble_eq_true rfl)
  rw [lg_entry_eq]
  generalize (lg_sl ([.ref (X.sa i)]) ++ List.replicate (1 - (lg_sl ([.ref (X.sa i)])).length) Slot.unset).toArray = ls at hl ⊢
  have hl : lv_has ls 1 [(0, .ref (X.sa i))] := hl
  obtain ⟨t1, t2, t3, t4⟩ := hE.2.1 i hi
  refine va_gets hx hb hE.2.2.2.1 hS hown (hts _ zv_f_comp) (fun _ h => h) zd_coder_0 ?_
  refine lv_if_eq (tgt := 13) hx hb zd_coder_3 (by decide) (fun z => absurd z (by decide)) (fun _ => ?_)
  refine lv_aload_n hx hb zd_coder_6 rfl (lv_at hl 0 rfl) ?_
  refine vk_getf hx hb t2 hS hown (hts _ zv_f_cod) (fun _ h => h) zd_coder_7 ?_
  refine lv_goto (tgt := 14) hx hb zd_coder_10 (by decide) ?_
  exact W.zret hx hb hr (by decide) (fun t ht _ => ⟨rfl, ht⟩) (fun q h => by cases h) zd_coder_14 hlocks
set_option maxHeartbeats 2000000 in
theorem zm_len (X : zz_X) {i : Nat} (hi : i < zz_nS) : Met X.l zy_len (Cond.code zy_len prog_16_method_54_code 1 (some .int) :: zz_tb) (zz_room 2) (zz_P0 X [.ref (X.sa i)]) (zz_Q0 (some (.int (Int32.ofNat (zz_tx i).length)))) 0 0 zz_no := by
  refine Met.ofW (cc := prog_16_method_54_code) (maxL := 1) (ret := some .int) (by decide) rfl ?_
  intro p e s m args below meth c s₁ B hml hv
  obtain ⟨rfl, hE⟩ := hv
  have hx := B.exec
  have hb := B.bytes
  have hr := B.returns
  have hts0 := atoms_spec (ws := Cond.code zy_len prog_16_method_54_code 1 (some .int) :: zz_tb) B.pre
  have hts : ∀ w ∈ zz_tb, w.before ([.ref (X.sa i)] : List Value).toArray s = true := fun w hw => hts0 w (List.mem_cons_of_mem _ hw)
  have hown : s.vm.findClass zy_len.cls = some m.cls := findClass_of_methodNamed B.named
  have hlocks := B.notSynchronized
  have hS : va_S (zz_A X) s.heap s.heap [] := va_S.rf
  have hl := lv_entry ([.ref (X.sa i)]) (n := 1) (Nat.le_of_ble_eq_true rfl)
  rw [lg_entry_eq]
  generalize (lg_sl ([.ref (X.sa i)]) ++ List.replicate (1 - (lg_sl ([.ref (X.sa i)])).length) Slot.unset).toArray = ls at hl ⊢
  have hl : lv_has ls 1 [(0, .ref (X.sa i))] := hl
  obtain ⟨t1, t2, t3, t4⟩ := hE.2.1 i hi
  refine lv_aload_n hx hb zd_len_0 rfl (lv_at hl 0 rfl) ?_
  refine vk_getf hx hb t3 hS hown (hts _ zv_f_val) (fun _ h => h) zd_len_1 ?_
  refine va_tlen hx hb t4 hS (v := Int32.ofNat (zz_tx i).length) rfl zd_len_4 ?_
  refine lv_aload_n hx hb zd_len_5 rfl (lv_at hl 0 rfl) ?_
  obtain ⟨cell, k1, k2, k3, -⟩ := t1
  refine zz_pcall (va_runV (nL := 1) (n := 0) (As := []) (rest := [.int (Int32.ofNat (zz_tx i).length)]) (C := "java/lang/String") (b := X.sa i) (own := "java/lang/String") ⟨hx, hb, hml, hown, hts⟩ (zm_coder X hi) ⟨⟨rfl, rfl, Nat.le_of_ble_eq_true rfl, Nat.le_of_ble_eq_true rfl, pay_in hts (zz_good zv_c_coder), List.mem_cons_self, hts _ zv_c_coder, hts _ zv_i_str, (by decide), (fun sig h => by cases h; rfl), hts _ zv_l_coder⟩, hts _ zv_m_coder, hts _ zv_s_coder⟩ ⟨zz_P0_blind, ⟨cell, k1, k2, k3⟩, fun U hU hW => zz_P0_pre (as := [.ref (X.sa i)]) hE hS hU hW⟩ rfl rfl hl.1 rfl (lv_room (Nat.le_of_ble_eq_true rfl)) zd_len_6 ⟨Nat.zero_le _, Nat.zero_le _⟩) ?_
  refine lv_ishr hx hb zd_len_9 ?_
  have e0 : Int32.ofNat (zz_tx i).length >>> ((0 : Int32) &&& 31) = Int32.ofNat (zz_tx i).length := zz_shr0 hi
  rw [e0]
  exact W.iret hx hb hr (fun t ht _ => ⟨rfl, ht⟩) (fun q h => by cases h) zd_len_10 hlocks
set_option maxHeartbeats 2000000 in
theorem zm_lat (X : zz_X) {i : Nat} (hi : i < zz_nS) : Met X.l zy_lat (Cond.code zy_lat prog_16_method_154_code 1 (some .boolean) :: zz_tb) (zz_room 1) (zz_P0 X [.ref (X.sa i)]) (zz_Q0 (some (.int 1))) 0 0 zz_no := by
  refine Met.ofW (cc := prog_16_method_154_code) (maxL := 1) (ret := some .boolean) (by decide) rfl ?_
  intro p e s m args below meth c s₁ B hml hv
  obtain ⟨rfl, hE⟩ := hv
  have hx := B.exec
  have hb := B.bytes
  have hr := B.returns
  have hts0 := atoms_spec (ws := Cond.code zy_lat prog_16_method_154_code 1 (some .boolean) :: zz_tb) B.pre
  have hts : ∀ w ∈ zz_tb, w.before ([.ref (X.sa i)] : List Value).toArray s = true := fun w hw => hts0 w (List.mem_cons_of_mem _ hw)
  have hown : s.vm.findClass zy_lat.cls = some m.cls := findClass_of_methodNamed B.named
  have hlocks := B.notSynchronized
  have hS : va_S (zz_A X) s.heap s.heap [] := va_S.rf
  have hl := lv_entry ([.ref (X.sa i)]) (n := 1) (Nat.le_of_ble_eq_true rfl)
  rw [lg_entry_eq]
  generalize (lg_sl ([.ref (X.sa i)]) ++ List.replicate (1 - (lg_sl ([.ref (X.sa i)])).length) Slot.unset).toArray = ls at hl ⊢
  have hl : lv_has ls 1 [(0, .ref (X.sa i))] := hl
  obtain ⟨t1, t2, t3, t4⟩ := hE.2.1 i hi
  refine va_gets hx hb hE.2.2.2.1 hS hown (hts _ zv_f_comp) (fun _ h => h) zd_lat_0 ?_
  refine lv_if_eq (tgt := 17) hx hb zd_lat_3 (by decide) (fun z => absurd z (by decide)) (fun _ => ?_)
  refine lv_aload_n hx hb zd_lat_6 rfl (lv_at hl 0 rfl) ?_
  refine vk_getf hx hb t2 hS hown (hts _ zv_f_cod) (fun _ h => h) zd_lat_7 ?_
  refine lv_if_ne (tgt := 17) hx hb zd_lat_10 (by decide) (fun z => absurd rfl z) (fun _ => ?_)
  refine lv_iconst hx hb zd_lat_13 (v := 1) (by decide) ?_
  refine lv_goto (tgt := 18) hx hb zd_lat_14 (by decide) ?_
  exact W.zret hx hb hr (by decide) (fun t ht _ => ⟨rfl, ht⟩) (fun q h => by cases h) zd_lat_18 hlocks
set_option maxHeartbeats 2000000 in
theorem zm_chkN (X : zz_X) {k n : Int32} (h1 : ¬ k < 0) (h2 : k < n) : Met X.l zy_chk (Cond.code zy_chk prog_19_method_11_code 3 (some .int) :: zz_tb) (zz_room 1) (zz_P0 X [.int k, .int n, .null]) (zz_Q0 (some (.int k))) 0 0 zz_no := by
  refine Met.ofW (cc := prog_19_method_11_code) (maxL := 3) (ret := some .int) (by decide) rfl ?_
  intro p e s m args below meth c s₁ B hml hv
  obtain ⟨rfl, hE⟩ := hv
  have hx := B.exec
  have hb := B.bytes
  have hr := B.returns
  have hts0 := atoms_spec (ws := Cond.code zy_chk prog_19_method_11_code 3 (some .int) :: zz_tb) B.pre
  have hts : ∀ w ∈ zz_tb, w.before ([.int k, .int n, .null] : List Value).toArray s = true := fun w hw => hts0 w (List.mem_cons_of_mem _ hw)
  have hown : s.vm.findClass zy_chk.cls = some m.cls := findClass_of_methodNamed B.named
  have hlocks := B.notSynchronized
  have hS : va_S (zz_A X) s.heap s.heap [] := va_S.rf
  have hl := lv_entry ([.int k, .int n, .null]) (n := 3) (Nat.le_of_ble_eq_true rfl)
  rw [lg_entry_eq]
  generalize (lg_sl ([.int k, .int n, .null]) ++ List.replicate (3 - (lg_sl ([.int k, .int n, .null])).length) Slot.unset).toArray = ls at hl ⊢
  have hl : lv_has ls 3 [(0, .int k), (1, .int n), (2, .null)] := hl
  refine lv_iload_n hx hb zd_chk_0 rfl (lv_at hl 0 rfl) ?_
  refine lv_if_lt (tgt := 9) hx hb zd_chk_1 (by decide) (fun z => absurd z h1) (fun _ => ?_)
  refine lv_iload_n hx hb zd_chk_4 rfl (lv_at hl 0 rfl) ?_
  refine lv_iload_n hx hb zd_chk_5 rfl (lv_at hl 1 rfl) ?_
  refine lv_icmp_lt (tgt := 16) hx hb zd_chk_6 (by decide) (fun _ => ?_) (fun z => absurd h2 z)
  refine lv_iload_n hx hb zd_chk_16 rfl (lv_at hl 0 rfl) ?_
  exact W.iret hx hb hr (fun t ht _ => ⟨rfl, ht⟩) (fun q h => by cases h) zd_chk_17 hlocks
set_option maxHeartbeats 2000000 in
theorem zm_chkR (X : zz_X) {k n : Int32} {t : Nat} (h1 : ¬ k < 0) (h2 : k < n) : Met X.l zy_chk (Cond.code zy_chk prog_19_method_11_code 3 (some .int) :: zz_tb) (zz_room 1) (zz_P0 X [.int k, .int n, .ref t]) (zz_Q0 (some (.int k))) 0 0 zz_no := by
  refine Met.ofW (cc := prog_19_method_11_code) (maxL := 3) (ret := some .int) (by decide) rfl ?_
  intro p e s m args below meth c s₁ B hml hv
  obtain ⟨rfl, hE⟩ := hv
  have hx := B.exec
  have hb := B.bytes
  have hr := B.returns
  have hts0 := atoms_spec (ws := Cond.code zy_chk prog_19_method_11_code 3 (some .int) :: zz_tb) B.pre
  have hts : ∀ w ∈ zz_tb, w.before ([.int k, .int n, .ref t] : List Value).toArray s = true := fun w hw => hts0 w (List.mem_cons_of_mem _ hw)
  have hown : s.vm.findClass zy_chk.cls = some m.cls := findClass_of_methodNamed B.named
  have hlocks := B.notSynchronized
  have hS : va_S (zz_A X) s.heap s.heap [] := va_S.rf
  have hl := lv_entry ([.int k, .int n, .ref t]) (n := 3) (Nat.le_of_ble_eq_true rfl)
  rw [lg_entry_eq]
  generalize (lg_sl ([.int k, .int n, .ref t]) ++ List.replicate (3 - (lg_sl ([.int k, .int n, .ref t])).length) Slot.unset).toArray = ls at hl ⊢
  have hl : lv_has ls 3 [(0, .int k), (1, .int n), (2, .ref t)] := hl
  refine lv_iload_n hx hb zd_chk_0 rfl (lv_at hl 0 rfl) ?_
  refine lv_if_lt (tgt := 9) hx hb zd_chk_1 (by decide) (fun z => absurd z h1) (fun _ => ?_)
  refine lv_iload_n hx hb zd_chk_4 rfl (lv_at hl 0 rfl) ?_
  refine lv_iload_n hx hb zd_chk_5 rfl (lv_at hl 1 rfl) ?_
  refine lv_icmp_lt (tgt := 16) hx hb zd_chk_6 (by decide) (fun _ => ?_) (fun z => absurd h2 z)
  refine lv_iload_n hx hb zd_chk_16 rfl (lv_at hl 0 rfl) ?_
  exact W.iret hx hb hr (fun t ht _ => ⟨rfl, ht⟩) (fun q h => by cases h) zd_chk_17 hlocks
set_option maxHeartbeats 2000000 in
theorem zm_sck (X : zz_X) {k n : Int32} (h1 : ¬ k < 0) (h2 : k < n) : Met X.l zy_sck (Cond.code zy_sck prog_16_method_155_code 2 (none) :: zz_tb) (zz_room 2) (zz_P0 X [.int k, .int n]) (zz_Q0 (none)) 0 0 zz_no := by
  refine Met.ofW (cc := prog_16_method_155_code) (maxL := 2) (ret := none) (by decide) rfl ?_
  intro p e s m args below meth c s₁ B hml hv
  obtain ⟨rfl, hE⟩ := hv
  have hx := B.exec
  have hb := B.bytes
  have hr := B.returns
  have hts0 := atoms_spec (ws := Cond.code zy_sck prog_16_method_155_code 2 (none) :: zz_tb) B.pre
  have hts : ∀ w ∈ zz_tb, w.before ([.int k, .int n] : List Value).toArray s = true := fun w hw => hts0 w (List.mem_cons_of_mem _ hw)
  have hown : s.vm.findClass zy_sck.cls = some m.cls := findClass_of_methodNamed B.named
  have hlocks := B.notSynchronized
  have hS : va_S (zz_A X) s.heap s.heap [] := va_S.rf
  have hl := lv_entry ([.int k, .int n]) (n := 2) (Nat.le_of_ble_eq_true rfl)
  rw [lg_entry_eq]
  generalize (lg_sl ([.int k, .int n]) ++ List.replicate (2 - (lg_sl ([.int k, .int n])).length) Slot.unset).toArray = ls at hl ⊢
  have hl : lv_has ls 2 [(0, .int k), (1, .int n)] := hl
  have key : ∀ fv : Value, fv.category = 1 → Met X.l zy_chk (Cond.code zy_chk prog_19_method_11_code 3 (some .int) :: zz_tb) (zz_room 1) (zz_P0 X [.int k, .int n, fv]) (zz_Q0 (some (.int k))) 0 0 zz_no → W p X.l e (headSpec (Cond.code zy_sck prog_16_method_155_code 2 none :: zz_tb) (zz_room 2)).room s m ([.int k, .int n] : List Value).toArray below meth c s.heap [] 0 0 (MQ below (zz_Q0 none) ([.int k, .int n] : List Value).toArray s 0 0 zz_no) (F0 m 5 ls [fv, .int n, .int k]) := by
    intro fv hfv hM
    refine zz_pcall (va_runS (nL := 2) (n := 3) (As := [.int k, .int n, fv]) (rest := []) (own := "java/lang/String") ⟨hx, hb, hml, hown, hts⟩ hM ⟨⟨rfl, rfl, Nat.le_of_ble_eq_true rfl, Nat.le_of_ble_eq_true rfl, pay_in hts (zz_good zv_c_chk), List.mem_cons_self, hts _ zv_c_chk, hts _ zv_i_pre, (by decide), (fun sig h => by cases h; rfl), hts _ zv_l_chk⟩, hts _ zv_t_chk⟩ ⟨zz_P0_blind, fun U hU hW => zz_P0_pre (as := [.int k, .int n, fv]) hE hS hU hW⟩ rfl rfl hl.1 rfl (lv_room (Nat.le_of_ble_eq_true rfl)) zd_sck_5 ⟨Nat.zero_le _, Nat.zero_le _⟩) ?_
    refine lv_pop hx hb zd_sck_8 rfl ?_
    exact W.vret hx hb hr (fun t ht _ => ⟨rfl, ht⟩) (fun q h => by cases h) zd_sck_9 hlocks
  refine lv_iload_n hx hb zd_sck_0 rfl (lv_at hl 0 rfl) ?_
  refine lv_iload_n hx hb zd_sck_1 rfl (lv_at hl 1 rfl) ?_
  rcases hE.2.2.2.2.1 with hz | ⟨t, hz⟩
  · exact va_gets hx hb hz hS hown (hts _ zv_f_pre) (fun _ h => h) zd_sck_2 (key .null rfl (zm_chkN X h1 h2))
  · exact va_gets hx hb hz hS hown (hts _ zv_f_pre) (fun _ h => h) zd_sck_2 (key (.ref t) rfl (zm_chkR X h1 h2))
set_option maxHeartbeats 2000000 in
theorem zm_lch (X : zz_X) {i k : Nat} (hi : i < zz_nS) (hk : k < (zz_tx i).length) : Met X.l zy_lch (Cond.code zy_lch prog_17_method_2_code 2 (some .char) :: zz_tb) (zz_room 3) (zz_P0 X [.ref (X.sv i), .int (nI k)]) (zz_Q0 (some (.int (nI ((zz_tx i).getD k 0))))) 0 0 zz_no := by
  refine Met.ofW (cc := prog_17_method_2_code) (maxL := 2) (ret := some .char) (by decide) rfl ?_
  intro p e s m args below meth c s₁ B hml hv
  obtain ⟨rfl, hE⟩ := hv
  have hx := B.exec
  have hb := B.bytes
  have hr := B.returns
  have hts0 := atoms_spec (ws := Cond.code zy_lch prog_17_method_2_code 2 (some .char) :: zz_tb) B.pre
  have hts : ∀ w ∈ zz_tb, w.before ([.ref (X.sv i), .int (nI k)] : List Value).toArray s = true := fun w hw => hts0 w (List.mem_cons_of_mem _ hw)
  have hown : s.vm.findClass zy_lch.cls = some m.cls := findClass_of_methodNamed B.named
  have hlocks := B.notSynchronized
  have hS : va_S (zz_A X) s.heap s.heap [] := va_S.rf
  have hl := lv_entry ([.ref (X.sv i), .int (nI k)]) (n := 2) (Nat.le_of_ble_eq_true rfl)
  rw [lg_entry_eq]
  generalize (lg_sl ([.ref (X.sv i), .int (nI k)]) ++ List.replicate (2 - (lg_sl ([.ref (X.sv i), .int (nI k)])).length) Slot.unset).toArray = ls at hl ⊢
  have hl : lv_has ls 2 [(0, .ref (X.sv i)), (1, .int (nI k))] := hl
  obtain ⟨t1, t2, t3, t4⟩ := hE.2.1 i hi
  obtain ⟨b1, b2⟩ := zz_txOk hi
  have h1 : ¬ nI k < 0 := nI_pos (by omega)
  have h2 : nI k < Int32.ofNat (zz_tx i).length := nI_lt hk (by omega)
  have hc : (nI k).toNatClampNeg = k := nI_clamp (by omega)
  refine lv_iload_n hx hb zd_lch_0 rfl (lv_at hl 1 rfl) ?_
  refine lv_aload_n hx hb zd_lch_1 rfl (lv_at hl 0 rfl) ?_
  refine va_tlen hx hb t4 hS (v := Int32.ofNat (zz_tx i).length) rfl zd_lch_2 ?_
  refine zz_pcall (va_runS (nL := 2) (n := 2) (As := [.int (nI k), .int (Int32.ofNat (zz_tx i).length)]) (rest := []) (own := "java/lang/StringLatin1") ⟨hx, hb, hml, hown, hts⟩ (zm_sck X h1 h2) ⟨⟨rfl, rfl, Nat.le_of_ble_eq_true rfl, Nat.le_of_ble_eq_true rfl, pay_in hts (zz_good zv_c_sck), List.mem_cons_self, hts _ zv_c_sck, hts _ zv_i_str, (by decide), (fun sig h => by cases h; rfl), hts _ zv_l_sck⟩, hts _ zv_t_sck⟩ ⟨zz_P0_blind, fun U hU hW => zz_P0_pre (as := [.int (nI k), .int (Int32.ofNat (zz_tx i).length)]) hE hS hU hW⟩ rfl rfl hl.1 rfl (lv_room (Nat.le_of_ble_eq_true rfl)) zd_lch_3 ⟨Nat.zero_le _, Nat.zero_le _⟩) ?_
  refine lv_aload_n hx hb zd_lch_6 rfl (lv_at hl 0 rfl) ?_
  refine lv_iload_n hx hb zd_lch_7 rfl (lv_at hl 1 rfl) ?_
  refine va_tb hx hb t4 hS (i := nI k) (vp_in_nI hk (by omega)) (v := .int (nI ((zz_tx i).getD k 0))) (by rw [hc]) zd_lch_8 ?_
  refine lv_sipush hx hb zd_lch_9 (v := 255) (by decide) ?_
  refine lv_iand hx hb zd_lch_12 ?_
  obtain ⟨q1, q2, q3⟩ := b2 k hk
  refine lv_i2c hx hb zd_lch_13 (v := nI ((zz_tx i).getD k 0)) q1 ?_
  exact W.zret hx hb hr q2 (fun t ht _ => ⟨rfl, ht⟩) (fun q h => by cases h) zd_lch_14 hlocks
set_option maxHeartbeats 2000000 in
theorem zm_chr (X : zz_X) {i k : Nat} (hi : i < zz_nS) (hk : k < (zz_tx i).length) : Met X.l zy_chr (Cond.code zy_chr prog_16_method_56_code 2 (some .char) :: zz_tb) (zz_room 4) (zz_P0 X [.ref (X.sa i), .int (nI k)]) (zz_Q0 (some (.int (nI ((zz_tx i).getD k 0))))) 0 0 zz_no := by
  refine Met.ofW (cc := prog_16_method_56_code) (maxL := 2) (ret := some .char) (by decide) rfl ?_
  intro p e s m args below meth c s₁ B hml hv
  obtain ⟨rfl, hE⟩ := hv
  have hx := B.exec
  have hb := B.bytes
  have hr := B.returns
  have hts0 := atoms_spec (ws := Cond.code zy_chr prog_16_method_56_code 2 (some .char) :: zz_tb) B.pre
  have hts : ∀ w ∈ zz_tb, w.before ([.ref (X.sa i), .int (nI k)] : List Value).toArray s = true := fun w hw => hts0 w (List.mem_cons_of_mem _ hw)
  have hown : s.vm.findClass zy_chr.cls = some m.cls := findClass_of_methodNamed B.named
  have hlocks := B.notSynchronized
  have hS : va_S (zz_A X) s.heap s.heap [] := va_S.rf
  have hl := lv_entry ([.ref (X.sa i), .int (nI k)]) (n := 2) (Nat.le_of_ble_eq_true rfl)
  rw [lg_entry_eq]
  generalize (lg_sl ([.ref (X.sa i), .int (nI k)]) ++ List.replicate (2 - (lg_sl ([.ref (X.sa i), .int (nI k)])).length) Slot.unset).toArray = ls at hl ⊢
  have hl : lv_has ls 2 [(0, .ref (X.sa i)), (1, .int (nI k))] := hl
  obtain ⟨t1, t2, t3, t4⟩ := hE.2.1 i hi
  obtain ⟨b1, b2⟩ := zz_txOk hi
  obtain ⟨q1, q2, q3⟩ := b2 k hk
  obtain ⟨cell, k1, k2, k3, -⟩ := t1
  refine lv_aload_n hx hb zd_chr_0 rfl (lv_at hl 0 rfl) ?_
  refine zz_pcall (va_runV (nL := 2) (n := 0) (As := []) (rest := []) (C := "java/lang/String") (b := X.sa i) (own := "java/lang/String") ⟨hx, hb, hml, hown, hts⟩ (zm_lat X hi) ⟨⟨rfl, rfl, Nat.le_of_ble_eq_true rfl, Nat.le_of_ble_eq_true rfl, pay_in hts (zz_good zv_c_lat), List.mem_cons_self, hts _ zv_c_lat, hts _ zv_i_str, (by decide), (fun sig h => by cases h; rfl), hts _ zv_l_lat⟩, hts _ zv_m_lat, hts _ zv_s_lat⟩ ⟨zz_P0_blind, ⟨cell, k1, k2, k3⟩, fun U hU hW => zz_P0_pre (as := [.ref (X.sa i)]) hE hS hU hW⟩ rfl rfl hl.1 rfl (lv_room (Nat.le_of_ble_eq_true rfl)) zd_chr_1 ⟨Nat.zero_le _, Nat.zero_le _⟩) ?_
  refine lv_if_eq (tgt := 16) hx hb zd_chr_4 (by decide) (fun z => absurd z (by decide)) (fun _ => ?_)
  refine lv_aload_n hx hb zd_chr_7 rfl (lv_at hl 0 rfl) ?_
  refine vk_getf hx hb t3 hS hown (hts _ zv_f_val) (fun _ h => h) zd_chr_8 ?_
  refine lv_iload_n hx hb zd_chr_11 rfl (lv_at hl 1 rfl) ?_
  refine zz_pcall (va_runS (nL := 2) (n := 2) (As := [.ref (X.sv i), .int (nI k)]) (rest := []) (own := "java/lang/String") ⟨hx, hb, hml, hown, hts⟩ (zm_lch X hi hk) ⟨⟨rfl, rfl, Nat.le_of_ble_eq_true rfl, Nat.le_of_ble_eq_true rfl, pay_in hts (zz_good zv_c_lch), List.mem_cons_self, hts _ zv_c_lch, hts _ zv_i_lat, (by decide), (fun sig h => by cases h; rfl), hts _ zv_l_lch⟩, hts _ zv_t_lch⟩ ⟨zz_P0_blind, fun U hU hW => zz_P0_pre (as := [.ref (X.sv i), .int (nI k)]) hE hS hU hW⟩ rfl rfl hl.1 rfl (lv_room (Nat.le_of_ble_eq_true rfl)) zd_chr_12 ⟨Nat.zero_le _, Nat.zero_le _⟩) ?_
  exact W.zret hx hb hr q2 (fun t ht _ => ⟨rfl, ht⟩) (fun q h => by cases h) zd_chr_15 hlocks
section ZX
variable {X : zz_X} {d : Nat} {P : zz_P} {j : Nat} {ls st : List zz_V} {σ : zz_M} {Post : Option zz_V → zz_M → Prop}
def zz_x1 (code : List zz_C) (j : Nat) (st : List zz_V) : Option (Int × List zz_V) := match code[j]? with
  | some e => match e.2.1, e.2.2.2, st with
    | .invokevirtual _, [297], .inr (.inr (.inr (k + 2))) :: r => some (((zz_tx k).length : Nat), r)
    | _, _, _ => none
  | none => none
theorem zz_cst {z : Int} {r : List zz_V} (h : zz_x1 P.code j st = some (z, r)) (hd : 2 < d) (hcat : zz_cat r ≤ 8) (k : zz_G X d P (j + 1) ls (zI z :: r) σ Post) : zz_G X d P j ls st σ Post := by
  intro p e s m args below meth c H locs lm hok hx hb hml hr hlk hown hts hE hS hR hl hlen hls hst
  unfold zz_x1 at h
  cases he : P.code[j]? with
  | none => rw [he] at h; cases h
  | some en =>
    rw [he] at h
    dsimp only at h
    obtain ⟨pc, ins, len, ts⟩ := en
    obtain ⟨r1, r2, r3, r4, r5⟩ := zz_row hok he
    rw [r5]
    dsimp only at h r1 r2 r3 r4 ⊢
    split at h
    · rename_i idx i r'
      cases h
      dsimp only [zz_ck] at r3
      have el := of_decide_eq_true r3
      subst el
      have hlink := hts _ (r4 (.methodLink P.y.cls idx (zz_mn 297)) List.mem_cons_self)
      obtain ⟨o1, o2⟩ := List.forall_mem_cons.mp hst
      have hi : i < zz_nS := by
        rcases o1 with o1 | o1
        · omega
        · omega
      obtain ⟨cell, k1, k2, k3, -⟩ := (hE.2.1 i hi).1.kept hS.2.1
      have r2' : zz_pc P (j + 1) = pc + 3 := r2 rfl
      have hrm : (2 : Nat) + 1 ≤ d ∧ 8 + (1 + 11) + 40 * 2 ≤ 40 * d := by omega
      refine zz_pcall (va_runV (nL := P.maxL) (n := 0) (As := []) (rest := r.map (zz_toV X)) (C := "java/lang/String") (b := X.sa i) ⟨hx, hb, hml, hown, hts⟩ (zm_len X hi) ⟨⟨rfl, rfl, hrm.1, hrm.2, pay_in hts (zz_good zv_c_len), List.mem_cons_self, hts _ zv_c_len, hts _ zv_i_str, (by decide), (fun sig h => by cases h; rfl), hlink⟩, hts _ zv_m_len, hts _ zv_s_len⟩ ⟨zz_P0_blind, ⟨cell, k1, k2, k3⟩, fun U hU hW => zz_P0_pre (as := [.ref (X.sa i)]) hE hS hU hW⟩ rfl rfl hl.1 rfl (lv_room (by rw [zz_cat_of]; exact hcat)) r1 ⟨Nat.zero_le _, Nat.zero_le _⟩) ?_
      have hb1 := (zz_txOk hi).1
      have k2 := k p e s m args below meth c H locs lm hok hx hb hml hr hlk hown hts hE hS hR hl hlen hls (zz_all1 (P := zz_ok X) (show zz_in (((zz_tx i).length : Nat) : Int) by unfold zz_in; omega) o2)
      rw [r2'] at k2
      have ev : Int32.ofInt (((zz_tx i).length : Nat) : Int) = Int32.ofNat (zz_tx i).length := (zz_ofN (by omega)).symm
      simp only [List.map_cons, zz_toV, ev] at k2
      exact k2
    · cases h
def zz_x2 (code : List zz_C) (j : Nat) (st : List zz_V) : Option (Int × List Nat × List zz_V) := match code[j]? with
  | some e => match e.2.1, e.2.2.2, st with
    | .invokevirtual _, [298], .inl x :: .inr (.inr (.inr (k + 2))) :: r => some (x, zz_tx k, r)
    | _, _, _ => none
  | none => none
theorem zz_csc {x : Int} {tx : List Nat} {r : List zz_V} (h : zz_x2 P.code j st = some (x, tx, r)) (hd : 4 < d) (hcat : zz_cat r ≤ 8) (hx0 : 0 ≤ x ∧ x < tx.length) (k : zz_G X d P (j + 1) ls (zI ((tx.getD x.toNat 0 : Nat) : Int) :: r) σ Post) : zz_G X d P j ls st σ Post := by
  intro p e s m args below meth c H locs lm hok hx hb hml hr hlk hown hts hE hS hR hl hlen hls hst
  unfold zz_x2 at h
  cases he : P.code[j]? with
  | none => rw [he] at h; cases h
  | some en =>
    rw [he] at h
    dsimp only at h
    obtain ⟨pc, ins, len, ts⟩ := en
    obtain ⟨r1, r2, r3, r4, r5⟩ := zz_row hok he
    rw [r5]
    dsimp only at h r1 r2 r3 r4 ⊢
    split at h
    · rename_i idx x' i r'
      cases h
      dsimp only [zz_ck] at r3
      have el := of_decide_eq_true r3
      subst el
      have hlink := hts _ (r4 (.methodLink P.y.cls idx (zz_mn 298)) List.mem_cons_self)
      obtain ⟨o0, o1, o2⟩ := zz_fm2 hst
      have hi : i < zz_nS := by
        rcases o1 with o1 | o1
        · omega
        · omega
      obtain ⟨cell, k1, k2, k3, -⟩ := (hE.2.1 i hi).1.kept hS.2.1
      have hb1 := (zz_txOk hi).1
      have r2' : zz_pc P (j + 1) = pc + 3 := r2 rfl
      have hrm : (4 : Nat) + 1 ≤ d ∧ 8 + (2 + 11) + 40 * 4 ≤ 40 * d := by omega
      have hxn : Int32.ofInt x = nI x.toNat := by
        rw [show nI x.toNat = Int32.ofNat x.toNat from rfl, zz_ofN (by omega)]
        congr 1
        omega
      have hk : x.toNat < (zz_tx i).length := by omega
      have hstk : (zI x :: .inr (.inr (.inr (i + 2))) :: r).map (zz_toV X) = .int (nI x.toNat) :: .ref (X.sa i) :: r.map (zz_toV X) := by
        simp only [List.map_cons, zz_toV, hxn]
      rw [hstk]
      refine zz_pcall (va_runV (nL := P.maxL) (n := 1) (As := [.int (nI x.toNat)]) (rest := r.map (zz_toV X)) (C := "java/lang/String") (b := X.sa i) ⟨hx, hb, hml, hown, hts⟩ (zm_chr X hi hk) ⟨⟨rfl, rfl, hrm.1, hrm.2, pay_in hts (zz_good zv_c_chr), List.mem_cons_self, hts _ zv_c_chr, hts _ zv_i_str, (by decide), (fun sig h => by cases h; rfl), hlink⟩, hts _ zv_m_chr, hts _ zv_s_chr⟩ ⟨zz_P0_blind, ⟨cell, k1, k2, k3⟩, fun U hU hW => zz_P0_pre (as := [.ref (X.sa i), .int (nI x.toNat)]) hE hS hU hW⟩ rfl rfl hl.1 rfl (lv_room (by rw [zz_cat_of]; exact hcat)) r1 ⟨Nat.zero_le _, Nat.zero_le _⟩) ?_
      have hb2 := ((zz_txOk hi).2 x.toNat hk).2.2
      have k2 := k p e s m args below meth c H locs lm hok hx hb hml hr hlk hown hts hE hS hR hl hlen hls (zz_all1 (P := zz_ok X) (show zz_in (((zz_tx i).getD x.toNat 0 : Nat) : Int) by unfold zz_in; omega) o2)
      rw [r2'] at k2
      have ev : Int32.ofInt (((zz_tx i).getD x.toNat 0 : Nat) : Int) = nI ((zz_tx i).getD x.toNat 0) := (zz_ofN (by omega)).symm
      simp only [List.map_cons, zz_toV, ev] at k2
      exact k2
    · cases h
def zz_m1 (code : List zz_C) (j : Nat) (st : List zz_V) : Option (Int × List zz_V) := match code[j]? with
  | some e => match e.2.1, e.2.2.2, st with
    | .invokestatic _, [299], .inl y :: .inl x :: r => some (max x y, r)
    | .invokestatic _, [300], .inl y :: .inl x :: r => some (min x y, r)
    | .invokestatic _, [301], .inl x :: r => some (zz_b (fun a _ => if 0 ≤ a then a else 0 - a) x 0, r)
    | _, _, _ => none
  | none => none
theorem zz_mth {z : Int} {r : List zz_V} (h : zz_m1 P.code j st = some (z, r)) (hd : 0 < d) (hcat : zz_cat r ≤ 8) (k : zz_G X d P (j + 1) ls (zI z :: r) σ Post) : zz_G X d P j ls st σ Post := by
  intro p e s m args below meth c H locs lm hok hx hb hml hr hlk hown hts hE hS hR hl hlen hls hst
  unfold zz_m1 at h
  cases he : P.code[j]? with
  | none => rw [he] at h; cases h
  | some en =>
    rw [he] at h
    dsimp only at h
    obtain ⟨pc, ins, len, ts⟩ := en
    obtain ⟨r1, r2, r3, r4, r5⟩ := zz_row hok he
    rw [r5]
    dsimp only at h r1 r2 r3 r4 ⊢
    have hrm : 1 ≤ d ∧ ((r.map (zz_toV X)).map fun v => v.category).sum + 13 ≤ 40 * d := by
      rw [zz_cat_of]
      omega
    split at h
    · rename_i idx y x r'
      cases h
      simp only [zz_ck, Bool.and_eq_true, decide_eq_true_eq] at r3
      obtain ⟨el, r3⟩ := r3
      subst el
      have hlink := hts _ (r4 (.methodLink P.y.cls idx (zz_mn 299)) List.mem_cons_self)
      obtain ⟨o1, o2, o3⟩ := zz_fm2 hst
      have r2' : zz_pc P (j + 1) = pc + 3 := r2 rfl
      have hin : zz_in (max x y) := by
        rcases Int.le_total x y with q | q
        · rw [Int.max_eq_right q]; exact o1
        · rw [Int.max_eq_left q]; exact o2
      refine va_mmax hx hb (hml.trans hl.1.symm) hown hlink (hts _ zv_t_max) (hts _ zv_i_mat) (hts _ zv_c_max) hrm.1 hrm.2 (Nat.zero_le _) (Nat.zero_le _) r1 ?_
      have k2 := k p e s m args below meth c H locs lm hok hx hb hml hr hlk hown hts hE hS hR hl hlen hls (zz_all1 (P := zz_ok X) hin o3)
      rw [r2'] at k2
      have ev : Int32.ofInt (max x y) = if Int32.ofInt x < Int32.ofInt y then Int32.ofInt y else Int32.ofInt x := by
        by_cases q : x < y
        · rw [if_pos ((zz_lt0 o2 o1).mpr q), Int.max_eq_right (by omega)]
        · rw [if_neg (fun z => q ((zz_lt0 o2 o1).mp z)), Int.max_eq_left (by omega)]
      simp only [List.map_cons, zz_toV, ev] at k2
      exact k2
    · rename_i idx y x r'
      cases h
      simp only [zz_ck, Bool.and_eq_true, decide_eq_true_eq] at r3
      obtain ⟨el, r3⟩ := r3
      subst el
      have hlink := hts _ (r4 (.methodLink P.y.cls idx (zz_mn 300)) List.mem_cons_self)
      obtain ⟨o1, o2, o3⟩ := zz_fm2 hst
      have r2' : zz_pc P (j + 1) = pc + 3 := r2 rfl
      have hin : zz_in (min x y) := by
        rcases Int.le_total x y with q | q
        · rw [Int.min_eq_left q]; exact o2
        · rw [Int.min_eq_right q]; exact o1
      refine va_mmin hx hb (hml.trans hl.1.symm) hown hlink (hts _ zv_t_min) (hts _ zv_i_mat) (hts _ zv_c_min) hrm.1 hrm.2 (Nat.zero_le _) (Nat.zero_le _) r1 ?_
      have k2 := k p e s m args below meth c H locs lm hok hx hb hml hr hlk hown hts hE hS hR hl hlen hls (zz_all1 (P := zz_ok X) hin o3)
      rw [r2'] at k2
      have ev : Int32.ofInt (min x y) = if Int32.ofInt y < Int32.ofInt x then Int32.ofInt y else Int32.ofInt x := by
        by_cases q : y < x
        · rw [if_pos ((zz_lt0 o1 o2).mpr q), Int.min_eq_right (by omega)]
        · rw [if_neg (fun z => q ((zz_lt0 o1 o2).mp z)), Int.min_eq_left (by omega)]
      simp only [List.map_cons, zz_toV, ev] at k2
      exact k2
    · rename_i idx x r'
      cases h
      simp only [zz_ck, Bool.and_eq_true, decide_eq_true_eq] at r3
      obtain ⟨el, r3⟩ := r3
      subst el
      have hlink := hts _ (r4 (.methodLink P.y.cls idx (zz_mn 301)) List.mem_cons_self)
      obtain ⟨o1, o3⟩ := List.forall_mem_cons.mp hst
      have r2' : zz_pc P (j + 1) = pc + 3 := r2 rfl
      refine va_mabs hx hb (hml.trans hl.1.symm) hown hlink (hts _ zv_t_abs) (hts _ zv_i_mat) (hts _ zv_c_abs) hrm.1 hrm.2 (Nat.zero_le _) (Nat.zero_le _) r1 ?_
      have k2 := k p e s m args below meth c H locs lm hok hx hb hml hr hlk hown hts hE hS hR hl hlen hls (zz_all1 (P := zz_ok X) (zz_i32 _) o3)
      rw [r2'] at k2
      have ev := zz_b_of (fun a _ => if 0 ≤ a then a else 0 - a) x 0
      simp only [List.map_cons, zz_toV, ev] at k2
      exact k2
    · cases h
end ZX
end
section
/-! the code of the methods, printed by program -/
def q_Bytes_add : List zz_C := [(0, .aload_n 0, 1, []), (1, .getfield 21, 3, [0]), (4, .ifCond .lt 36, 3, [22]), (7, .aload_n 0, 1, []), (8, .getfield 21, 3, [0]), (11, .aload_n 0, 1, []), (12, .getfield 15, 3, [1]), (15, .arraylength, 1, []), (16, .if_icmp .ge 24, 3, [22]), (19, .aload_n 0, 1, []), (20, .getfield 15, 3, [1]), (23, .aload_n 0, 1, []), (24, .getfield 21, 3, [0]), (27, .iload_n 1, 1, []), (28, .i2b, 1, []), (29, .bastore, 1, []), (30, .aload_n 0, 1, []), (31, .dup, 1, []), (32, .getfield 21, 3, [0]), (35, .iconst 1, 1, []), (36, .iadd, 1, []), (37, .putfield 21, 3, [0]), (40, .return_, 1, [])]
def p_Bytes_add : zz_P := (1, ⟨"TurnQueues$Bytes", "add", "(I)V"⟩, prog_2_method_2_code, 2, none, q_Bytes_add)
set_option maxRecDepth 100000 in
theorem k_Bytes_add : zz_okP p_Bytes_add := ⟨by decide +kernel, zz_mem_r [131, 131, 136, 136, 131, 131, 131] rfl (by decide +kernel)⟩
set_option maxRecDepth 100000 in
theorem o_Bytes_add : zz_okC p_Bytes_add false 0 2 := zz_okV (zz_mem_r (ws := [Cond.code p_Bytes_add.y p_Bytes_add.bytes p_Bytes_add.maxL p_Bytes_add.ret, Cond.initialized p_Bytes_add.y.cls, Cond.instanceMethod p_Bytes_add.y, Cond.selects p_Bytes_add.y.cls p_Bytes_add.y p_Bytes_add.y]) [578, 97, 576, 577] rfl (by decide +kernel)) rfl rfl (by decide +kernel) (by decide +kernel) rfl (by decide +kernel) rfl
def q_Bytes_addFour : List zz_C := [(0, .aload_n 0, 1, []), (1, .iload_n 1, 1, []), (2, .bipush 24, 2, []), (4, .iushr, 1, []), (5, .invokevirtual 25, 3, [1]), (8, .aload_n 0, 1, []), (9, .iload_n 1, 1, []), (10, .bipush 16, 2, []), (12, .iushr, 1, []), (13, .invokevirtual 25, 3, [1]), (16, .aload_n 0, 1, []), (17, .iload_n 1, 1, []), (18, .bipush 8, 2, []), (20, .iushr, 1, []), (21, .invokevirtual 25, 3, [1]), (24, .aload_n 0, 1, []), (25, .iload_n 1, 1, []), (26, .invokevirtual 25, 3, [1]), (29, .return_, 1, [])]
def p_Bytes_addFour : zz_P := (2, ⟨"TurnQueues$Bytes", "addFour", "(I)V"⟩, prog_2_method_3_code, 2, none, q_Bytes_addFour)
set_option maxRecDepth 100000 in
theorem k_Bytes_addFour : zz_okP p_Bytes_addFour := ⟨by decide +kernel, zz_mem_r [575, 575, 575, 575] rfl (by decide +kernel)⟩
set_option maxRecDepth 100000 in
theorem o_Bytes_addFour : zz_okC p_Bytes_addFour false 0 2 := zz_okV (zz_mem_r (ws := [Cond.code p_Bytes_addFour.y p_Bytes_addFour.bytes p_Bytes_addFour.maxL p_Bytes_addFour.ret, Cond.initialized p_Bytes_addFour.y.cls, Cond.instanceMethod p_Bytes_addFour.y, Cond.selects p_Bytes_addFour.y.cls p_Bytes_addFour.y p_Bytes_addFour.y]) [574, 97, 572, 573] rfl (by decide +kernel)) rfl rfl (by decide +kernel) (by decide +kernel) rfl (by decide +kernel) rfl
def q_Bytes_addWord : List zz_C := [(0, .iconst 0, 1, []), (1, .istore_n 2, 1, []), (2, .iload_n 2, 1, []), (3, .aload_n 1, 1, []), (4, .invokevirtual 29, 3, [297]), (7, .if_icmp .ge 18, 3, [13]), (10, .aload_n 0, 1, []), (11, .aload_n 1, 1, []), (12, .iload_n 2, 1, []), (13, .invokevirtual 34, 3, [298]), (16, .invokevirtual 25, 3, [1]), (19, .iinc 2 1, 3, []), (22, .goto (-20), 3, [2]), (25, .return_, 1, [])]
def p_Bytes_addWord : zz_P := (3, ⟨"TurnQueues$Bytes", "addWord", "(Ljava/lang/String;)V"⟩, prog_2_method_4_code, 3, none, q_Bytes_addWord)
set_option maxRecDepth 100000 in
theorem k_Bytes_addWord : zz_okP p_Bytes_addWord := ⟨by decide +kernel, zz_mem_r [992, 993, 575] rfl (by decide +kernel)⟩
set_option maxRecDepth 100000 in
theorem o_Bytes_addWord : zz_okC p_Bytes_addWord false 0 2 := zz_okV (zz_mem_r (ws := [Cond.code p_Bytes_addWord.y p_Bytes_addWord.bytes p_Bytes_addWord.maxL p_Bytes_addWord.ret, Cond.initialized p_Bytes_addWord.y.cls, Cond.instanceMethod p_Bytes_addWord.y, Cond.selects p_Bytes_addWord.y.cls p_Bytes_addWord.y p_Bytes_addWord.y]) [991, 97, 989, 990] rfl (by decide +kernel)) rfl rfl (by decide +kernel) (by decide +kernel) rfl (by decide +kernel) rfl
def q_Bytes_addNumber : List zz_C := [(0, .iload_n 1, 1, []), (1, .bipush 10, 2, []), (3, .if_icmp .lt 17, 3, [12]), (6, .aload_n 0, 1, []), (7, .bipush 48, 2, []), (9, .iload_n 1, 1, []), (10, .bipush 10, 2, []), (12, .idiv, 1, []), (13, .bipush 10, 2, []), (15, .irem, 1, []), (16, .iadd, 1, []), (17, .invokevirtual 25, 3, [1]), (20, .aload_n 0, 1, []), (21, .bipush 48, 2, []), (23, .iload_n 1, 1, []), (24, .bipush 10, 2, []), (26, .irem, 1, []), (27, .iadd, 1, []), (28, .invokevirtual 25, 3, [1]), (31, .return_, 1, [])]
def p_Bytes_addNumber : zz_P := (4, ⟨"TurnQueues$Bytes", "addNumber", "(I)V"⟩, prog_2_method_5_code, 2, none, q_Bytes_addNumber)
set_option maxRecDepth 100000 in
theorem k_Bytes_addNumber : zz_okP p_Bytes_addNumber := ⟨by decide +kernel, zz_mem_r [575, 575] rfl (by decide +kernel)⟩
set_option maxRecDepth 100000 in
theorem o_Bytes_addNumber : zz_okC p_Bytes_addNumber false 0 2 := zz_okV (zz_mem_r (ws := [Cond.code p_Bytes_addNumber.y p_Bytes_addNumber.bytes p_Bytes_addNumber.maxL p_Bytes_addNumber.ret, Cond.initialized p_Bytes_addNumber.y.cls, Cond.instanceMethod p_Bytes_addNumber.y, Cond.selects p_Bytes_addNumber.y.cls p_Bytes_addNumber.y p_Bytes_addNumber.y]) [999, 97, 997, 998] rfl (by decide +kernel)) rfl rfl (by decide +kernel) (by decide +kernel) rfl (by decide +kernel) rfl
def q_Bytes_byteAt : List zz_C := [(0, .iload_n 1, 1, []), (1, .ifCond .lt 33, 3, [18]), (4, .iload_n 1, 1, []), (5, .aload_n 0, 1, []), (6, .getfield 21, 3, [0]), (9, .if_icmp .ge 25, 3, [18]), (12, .iload_n 1, 1, []), (13, .aload_n 0, 1, []), (14, .getfield 15, 3, [1]), (17, .arraylength, 1, []), (18, .if_icmp .ge 16, 3, [18]), (21, .aload_n 0, 1, []), (22, .getfield 15, 3, [1]), (25, .iload_n 1, 1, []), (26, .baload, 1, []), (27, .sipush 255, 3, []), (30, .iand, 1, []), (31, .goto 4, 3, [19]), (34, .iconst (-1), 1, []), (35, .ireturn, 1, [])]
def p_Bytes_byteAt : zz_P := (5, ⟨"TurnQueues$Bytes", "byteAt", "(I)I"⟩, prog_2_method_6_code, 2, (some .int), q_Bytes_byteAt)
set_option maxRecDepth 100000 in
theorem k_Bytes_byteAt : zz_okP p_Bytes_byteAt := ⟨by decide +kernel, zz_mem_r [131, 136, 136] rfl (by decide +kernel)⟩
set_option maxRecDepth 100000 in
theorem o_Bytes_byteAt : zz_okC p_Bytes_byteAt false 0 2 := zz_okV (zz_mem_r (ws := [Cond.code p_Bytes_byteAt.y p_Bytes_byteAt.bytes p_Bytes_byteAt.maxL p_Bytes_byteAt.ret, Cond.initialized p_Bytes_byteAt.y.cls, Cond.instanceMethod p_Bytes_byteAt.y, Cond.selects p_Bytes_byteAt.y.cls p_Bytes_byteAt.y p_Bytes_byteAt.y]) [602, 97, 600, 601] rfl (by decide +kernel)) rfl rfl (by decide +kernel) (by decide +kernel) rfl (by decide +kernel) rfl
def q_Bytes_equalTo : List zz_C := [(0, .aload_n 0, 1, []), (1, .getfield 21, 3, [0]), (4, .aload_n 1, 1, []), (5, .getfield 21, 3, [0]), (8, .if_icmp .ne 7, 3, [7]), (11, .iconst 1, 1, []), (12, .goto 4, 3, [8]), (15, .iconst 0, 1, []), (16, .istore_n 2, 1, []), (17, .iconst 0, 1, []), (18, .istore_n 3, 1, []), (19, .iload_n 2, 1, []), (20, .ifCond .eq 36, 3, [30]), (23, .iload_n 3, 1, []), (24, .aload_n 0, 1, []), (25, .getfield 21, 3, [0]), (28, .if_icmp .ge 28, 3, [30]), (31, .aload_n 0, 1, []), (32, .iload_n 3, 1, []), (33, .invokevirtual 38, 3, [5]), (36, .aload_n 1, 1, []), (37, .iload_n 3, 1, []), (38, .invokevirtual 38, 3, [5]), (41, .if_icmp .ne 7, 3, [26]), (44, .iconst 1, 1, []), (45, .goto 4, 3, [27]), (48, .iconst 0, 1, []), (49, .istore_n 2, 1, []), (50, .iinc 3 1, 3, []), (53, .goto (-34), 3, [11]), (56, .iload_n 2, 1, []), (57, .ireturn, 1, [])]
def p_Bytes_equalTo : zz_P := (6, ⟨"TurnQueues$Bytes", "equalTo", "(LTurnQueues$Bytes;)Z"⟩, prog_2_method_7_code, 4, (some .boolean), q_Bytes_equalTo)
set_option maxRecDepth 100000 in
theorem k_Bytes_equalTo : zz_okP p_Bytes_equalTo := ⟨by decide +kernel, zz_mem_r [131, 131, 131, 1023, 1023] rfl (by decide +kernel)⟩
set_option maxRecDepth 100000 in
theorem o_Bytes_equalTo : zz_okC p_Bytes_equalTo false 0 2 := zz_okV (zz_mem_r (ws := [Cond.code p_Bytes_equalTo.y p_Bytes_equalTo.bytes p_Bytes_equalTo.maxL p_Bytes_equalTo.ret, Cond.initialized p_Bytes_equalTo.y.cls, Cond.instanceMethod p_Bytes_equalTo.y, Cond.selects p_Bytes_equalTo.y.cls p_Bytes_equalTo.y p_Bytes_equalTo.y]) [1022, 97, 1020, 1021] rfl (by decide +kernel)) rfl rfl (by decide +kernel) (by decide +kernel) rfl (by decide +kernel) rfl
end
section
/-! the code of the methods, printed by program -/
def q_Cells_numberOf : List zz_C := [(0, .iload_n 1, 1, []), (1, .ifCond .lt 21, 3, [12]), (4, .iload_n 1, 1, []), (5, .aload_n 0, 1, []), (6, .getfield 15, 3, [101]), (9, .arraylength, 1, []), (10, .if_icmp .ge 12, 3, [12]), (13, .aload_n 0, 1, []), (14, .getfield 15, 3, [101]), (17, .iload_n 1, 1, []), (18, .iaload, 1, []), (19, .goto 4, 3, [13]), (22, .iconst (-1), 1, []), (23, .ireturn, 1, [])]
def p_Cells_numberOf : zz_P := (8, ⟨"TurnQueues$Cells", "numberOf", "(I)I"⟩, prog_3_method_2_code, 2, (some .int), q_Cells_numberOf)
set_option maxRecDepth 100000 in
theorem k_Cells_numberOf : zz_okP p_Cells_numberOf := ⟨by decide +kernel, zz_mem_r [259, 259] rfl (by decide +kernel)⟩
set_option maxRecDepth 100000 in
theorem o_Cells_numberOf : zz_okC p_Cells_numberOf false 1 2 := zz_okV (zz_mem_r (ws := [Cond.code p_Cells_numberOf.y p_Cells_numberOf.bytes p_Cells_numberOf.maxL p_Cells_numberOf.ret, Cond.initialized p_Cells_numberOf.y.cls, Cond.instanceMethod p_Cells_numberOf.y, Cond.selects p_Cells_numberOf.y.cls p_Cells_numberOf.y p_Cells_numberOf.y]) [818, 103, 816, 817] rfl (by decide +kernel)) rfl rfl (by decide +kernel) (by decide +kernel) rfl (by decide +kernel) rfl
def q_Cells_makerOf : List zz_C := [(0, .iload_n 1, 1, []), (1, .ifCond .lt 21, 3, [12]), (4, .iload_n 1, 1, []), (5, .aload_n 0, 1, []), (6, .getfield 24, 3, [103]), (9, .arraylength, 1, []), (10, .if_icmp .ge 12, 3, [12]), (13, .aload_n 0, 1, []), (14, .getfield 24, 3, [103]), (17, .iload_n 1, 1, []), (18, .iaload, 1, []), (19, .goto 4, 3, [13]), (22, .iconst (-1), 1, []), (23, .ireturn, 1, [])]
def p_Cells_makerOf : zz_P := (9, ⟨"TurnQueues$Cells", "makerOf", "(I)I"⟩, prog_3_method_3_code, 2, (some .int), q_Cells_makerOf)
set_option maxRecDepth 100000 in
theorem k_Cells_makerOf : zz_okP p_Cells_makerOf := ⟨by decide +kernel, zz_mem_r [261, 261] rfl (by decide +kernel)⟩
set_option maxRecDepth 100000 in
theorem o_Cells_makerOf : zz_okC p_Cells_makerOf false 1 2 := zz_okV (zz_mem_r (ws := [Cond.code p_Cells_makerOf.y p_Cells_makerOf.bytes p_Cells_makerOf.maxL p_Cells_makerOf.ret, Cond.initialized p_Cells_makerOf.y.cls, Cond.instanceMethod p_Cells_makerOf.y, Cond.selects p_Cells_makerOf.y.cls p_Cells_makerOf.y p_Cells_makerOf.y]) [1063, 103, 1061, 1062] rfl (by decide +kernel)) rfl rfl (by decide +kernel) (by decide +kernel) rfl (by decide +kernel) rfl
def q_Cells_behind : List zz_C := [(0, .iload_n 1, 1, []), (1, .ifCond .lt 21, 3, [12]), (4, .iload_n 1, 1, []), (5, .aload_n 0, 1, []), (6, .getfield 21, 3, [102]), (9, .arraylength, 1, []), (10, .if_icmp .ge 12, 3, [12]), (13, .aload_n 0, 1, []), (14, .getfield 21, 3, [102]), (17, .iload_n 1, 1, []), (18, .iaload, 1, []), (19, .goto 4, 3, [13]), (22, .iconst (-1), 1, []), (23, .ireturn, 1, [])]
def p_Cells_behind : zz_P := (10, ⟨"TurnQueues$Cells", "behind", "(I)I"⟩, prog_3_method_4_code, 2, (some .int), q_Cells_behind)
set_option maxRecDepth 100000 in
theorem k_Cells_behind : zz_okP p_Cells_behind := ⟨by decide +kernel, zz_mem_r [260, 260] rfl (by decide +kernel)⟩
set_option maxRecDepth 100000 in
theorem o_Cells_behind : zz_okC p_Cells_behind false 1 2 := zz_okV (zz_mem_r (ws := [Cond.code p_Cells_behind.y p_Cells_behind.bytes p_Cells_behind.maxL p_Cells_behind.ret, Cond.initialized p_Cells_behind.y.cls, Cond.instanceMethod p_Cells_behind.y, Cond.selects p_Cells_behind.y.cls p_Cells_behind.y p_Cells_behind.y]) [857, 103, 855, 856] rfl (by decide +kernel)) rfl rfl (by decide +kernel) (by decide +kernel) rfl (by decide +kernel) rfl
def q_Cells_add : List zz_C := [(0, .iconst (-1), 1, []), (1, .istore 4, 2, []), (3, .aload_n 0, 1, []), (4, .getfield 30, 3, [100]), (7, .ifCond .lt 58, 3, [36]), (10, .aload_n 0, 1, []), (11, .getfield 30, 3, [100]), (14, .aload_n 0, 1, []), (15, .getfield 15, 3, [101]), (18, .arraylength, 1, []), (19, .if_icmp .ge 46, 3, [36]), (22, .aload_n 0, 1, []), (23, .getfield 30, 3, [100]), (26, .istore 4, 2, []), (28, .aload_n 0, 1, []), (29, .getfield 15, 3, [101]), (32, .iload 4, 2, []), (34, .iload_n 2, 1, []), (35, .iastore, 1, []), (36, .aload_n 0, 1, []), (37, .getfield 21, 3, [102]), (40, .iload 4, 2, []), (42, .aload_n 1, 1, []), (43, .getfield 34, 3, [700]), (46, .iastore, 1, []), (47, .aload_n 0, 1, []), (48, .getfield 24, 3, [103]), (51, .iload 4, 2, []), (53, .iload_n 3, 1, []), (54, .iastore, 1, []), (55, .aload_n 0, 1, []), (56, .dup, 1, []), (57, .getfield 30, 3, [100]), (60, .iconst 1, 1, []), (61, .iadd, 1, []), (62, .putfield 30, 3, [100]), (65, .aload_n 1, 1, []), (66, .iload 4, 2, []), (68, .putfield 34, 3, [700]), (71, .aload_n 1, 1, []), (72, .dup, 1, []), (73, .getfield 39, 3, [701]), (76, .iconst 1, 1, []), (77, .iadd, 1, []), (78, .putfield 39, 3, [701]), (81, .return_, 1, [])]
def p_Cells_add : zz_P := (11, ⟨"TurnQueues$Cells", "add", "(LTurnQueues$Row;II)V"⟩, prog_3_method_5_code, 5, none, q_Cells_add)
set_option maxRecDepth 100000 in
theorem k_Cells_add : zz_okP p_Cells_add := ⟨by decide +kernel, zz_mem_r [257, 257, 259, 257, 259, 260, 325, 261, 257, 257, 325, 329, 329] rfl (by decide +kernel)⟩
set_option maxRecDepth 100000 in
theorem o_Cells_add : zz_okC p_Cells_add false 1 4 := zz_okV (zz_mem_r (ws := [Cond.code p_Cells_add.y p_Cells_add.bytes p_Cells_add.maxL p_Cells_add.ret, Cond.initialized p_Cells_add.y.cls, Cond.instanceMethod p_Cells_add.y, Cond.selects p_Cells_add.y.cls p_Cells_add.y p_Cells_add.y]) [798, 103, 796, 797] rfl (by decide +kernel)) rfl rfl (by decide +kernel) (by decide +kernel) rfl (by decide +kernel) rfl
def q_Cells_dropFirst : List zz_C := [(0, .aload_n 1, 1, []), (1, .getfield 34, 3, [700]), (4, .istore_n 2, 1, []), (5, .aload_n 1, 1, []), (6, .getfield 39, 3, [701]), (9, .ifCond .le 40, 3, [27]), (12, .aload_n 1, 1, []), (13, .iload_n 2, 1, []), (14, .ifCond .lt 21, 3, [19]), (17, .iload_n 2, 1, []), (18, .aload_n 0, 1, []), (19, .getfield 21, 3, [102]), (22, .arraylength, 1, []), (23, .if_icmp .ge 12, 3, [19]), (26, .aload_n 0, 1, []), (27, .getfield 21, 3, [102]), (30, .iload_n 2, 1, []), (31, .iaload, 1, []), (32, .goto 4, 3, [20]), (35, .iconst (-1), 1, []), (36, .putfield 34, 3, [700]), (39, .aload_n 1, 1, []), (40, .dup, 1, []), (41, .getfield 39, 3, [701]), (44, .iconst 1, 1, []), (45, .isub, 1, []), (46, .putfield 39, 3, [701]), (49, .return_, 1, [])]
def p_Cells_dropFirst : zz_P := (12, ⟨"TurnQueues$Cells", "dropFirst", "(LTurnQueues$Row;)V"⟩, prog_3_method_6_code, 3, none, q_Cells_dropFirst)
set_option maxRecDepth 100000 in
theorem k_Cells_dropFirst : zz_okP p_Cells_dropFirst := ⟨by decide +kernel, zz_mem_r [325, 329, 260, 260, 325, 329, 329] rfl (by decide +kernel)⟩
set_option maxRecDepth 100000 in
theorem o_Cells_dropFirst : zz_okC p_Cells_dropFirst false 1 2 := zz_okV (zz_mem_r (ws := [Cond.code p_Cells_dropFirst.y p_Cells_dropFirst.bytes p_Cells_dropFirst.maxL p_Cells_dropFirst.ret, Cond.initialized p_Cells_dropFirst.y.cls, Cond.instanceMethod p_Cells_dropFirst.y, Cond.selects p_Cells_dropFirst.y.cls p_Cells_dropFirst.y p_Cells_dropFirst.y]) [806, 103, 804, 805] rfl (by decide +kernel)) rfl rfl (by decide +kernel) (by decide +kernel) rfl (by decide +kernel) rfl
def q_Cells_cellIn : List zz_C := [(0, .iload_n 2, 1, []), (1, .ifCond .lt 11, 3, [6]), (4, .iload_n 2, 1, []), (5, .aload_n 1, 1, []), (6, .getfield 39, 3, [701]), (9, .if_icmp .lt 5, 3, [8]), (12, .iconst (-1), 1, []), (13, .ireturn, 1, []), (14, .aload_n 1, 1, []), (15, .getfield 34, 3, [700]), (18, .istore_n 3, 1, []), (19, .iconst 0, 1, []), (20, .istore 4, 2, []), (22, .iload 4, 2, []), (24, .iload_n 2, 1, []), (25, .if_icmp .ge 15, 3, [22]), (28, .aload_n 0, 1, []), (29, .iload_n 3, 1, []), (30, .invokevirtual 42, 3, [10]), (33, .istore_n 3, 1, []), (34, .iinc 4 1, 3, []), (37, .goto (-15), 3, [13]), (40, .iload_n 3, 1, []), (41, .ireturn, 1, [])]
def p_Cells_cellIn : zz_P := (13, ⟨"TurnQueues$Cells", "cellIn", "(LTurnQueues$Row;I)I"⟩, prog_3_method_7_code, 5, (some .int), q_Cells_cellIn)
set_option maxRecDepth 100000 in
theorem k_Cells_cellIn : zz_okP p_Cells_cellIn := ⟨by decide +kernel, zz_mem_r [329, 325, 969] rfl (by decide +kernel)⟩
set_option maxRecDepth 100000 in
theorem o_Cells_cellIn : zz_okC p_Cells_cellIn false 1 3 := zz_okV (zz_mem_r (ws := [Cond.code p_Cells_cellIn.y p_Cells_cellIn.bytes p_Cells_cellIn.maxL p_Cells_cellIn.ret, Cond.initialized p_Cells_cellIn.y.cls, Cond.instanceMethod p_Cells_cellIn.y, Cond.selects p_Cells_cellIn.y.cls p_Cells_cellIn.y p_Cells_cellIn.y]) [968, 103, 966, 967] rfl (by decide +kernel)) rfl rfl (by decide +kernel) (by decide +kernel) rfl (by decide +kernel) rfl
def q_Cells_unmarkAll : List zz_C := [(0, .aload_n 0, 1, []), (1, .dup, 1, []), (2, .getfield 46, 3, [105]), (5, .iconst 1, 1, []), (6, .iadd, 1, []), (7, .putfield 46, 3, [105]), (10, .return_, 1, [])]
def p_Cells_unmarkAll : zz_P := (14, ⟨"TurnQueues$Cells", "unmarkAll", "()V"⟩, prog_3_method_8_code, 1, none, q_Cells_unmarkAll)
set_option maxRecDepth 100000 in
theorem k_Cells_unmarkAll : zz_okP p_Cells_unmarkAll := ⟨by decide +kernel, zz_mem_r [263, 263] rfl (by decide +kernel)⟩
set_option maxRecDepth 100000 in
theorem o_Cells_unmarkAll : zz_okC p_Cells_unmarkAll false 1 1 := zz_okV (zz_mem_r (ws := [Cond.code p_Cells_unmarkAll.y p_Cells_unmarkAll.bytes p_Cells_unmarkAll.maxL p_Cells_unmarkAll.ret, Cond.initialized p_Cells_unmarkAll.y.cls, Cond.instanceMethod p_Cells_unmarkAll.y, Cond.selects p_Cells_unmarkAll.y.cls p_Cells_unmarkAll.y p_Cells_unmarkAll.y]) [1071, 103, 1069, 1070] rfl (by decide +kernel)) rfl rfl (by decide +kernel) (by decide +kernel) rfl (by decide +kernel) rfl
def q_Cells_markState : List zz_C := [(0, .aload_n 0, 1, []), (1, .aload_n 1, 1, []), (2, .getfield 49, 3, [900]), (5, .iload_n 2, 1, []), (6, .invokevirtual 55, 3, [16]), (9, .aload_n 0, 1, []), (10, .aload_n 1, 1, []), (11, .getfield 59, 3, [901]), (14, .iload_n 2, 1, []), (15, .invokevirtual 55, 3, [16]), (18, .iadd, 1, []), (19, .aload_n 0, 1, []), (20, .aload_n 1, 1, []), (21, .getfield 62, 3, [902]), (24, .iload_n 2, 1, []), (25, .invokevirtual 55, 3, [16]), (28, .iadd, 1, []), (29, .aload_n 0, 1, []), (30, .aload_n 1, 1, []), (31, .getfield 65, 3, [903]), (34, .iload_n 2, 1, []), (35, .invokevirtual 55, 3, [16]), (38, .iadd, 1, []), (39, .aload_n 0, 1, []), (40, .aload_n 1, 1, []), (41, .getfield 68, 3, [904]), (44, .iload_n 2, 1, []), (45, .invokevirtual 55, 3, [16]), (48, .iadd, 1, []), (49, .aload_n 0, 1, []), (50, .aload_n 1, 1, []), (51, .getfield 71, 3, [905]), (54, .iload_n 2, 1, []), (55, .invokevirtual 55, 3, [16]), (58, .iadd, 1, []), (59, .ireturn, 1, [])]
def p_Cells_markState : zz_P := (15, ⟨"TurnQueues$Cells", "markState", "(LTurnQueues$State;I)I"⟩, prog_3_method_9_code, 3, (some .int), q_Cells_markState)
set_option maxRecDepth 100000 in
theorem k_Cells_markState : zz_okP p_Cells_markState := ⟨by decide +kernel, zz_mem_r [340, 1076, 345, 1076, 348, 1076, 352, 1076, 356, 1076, 361, 1076] rfl (by decide +kernel)⟩
set_option maxRecDepth 100000 in
theorem o_Cells_markState : zz_okC p_Cells_markState false 1 3 := zz_okV (zz_mem_r (ws := [Cond.code p_Cells_markState.y p_Cells_markState.bytes p_Cells_markState.maxL p_Cells_markState.ret, Cond.initialized p_Cells_markState.y.cls, Cond.instanceMethod p_Cells_markState.y, Cond.selects p_Cells_markState.y.cls p_Cells_markState.y p_Cells_markState.y]) [1075, 103, 1073, 1074] rfl (by decide +kernel)) rfl rfl (by decide +kernel) (by decide +kernel) rfl (by decide +kernel) rfl
def q_Cells_markRow : List zz_C := [(0, .iconst 0, 1, []), (1, .istore_n 3, 1, []), (2, .aload_n 1, 1, []), (3, .getfield 34, 3, [700]), (6, .istore 4, 2, []), (8, .iconst 0, 1, []), (9, .istore 5, 2, []), (11, .iload 5, 2, []), (13, .aload_n 1, 1, []), (14, .getfield 39, 3, [701]), (17, .if_icmp .ge 77, 3, [48]), (20, .iload 4, 2, []), (22, .ifCond .lt 72, 3, [48]), (25, .iload 4, 2, []), (27, .aload_n 0, 1, []), (28, .getfield 27, 3, [104]), (31, .arraylength, 1, []), (32, .if_icmp .ge 62, 3, [48]), (35, .aload_n 0, 1, []), (36, .getfield 27, 3, [104]), (39, .iload 4, 2, []), (41, .iaload, 1, []), (42, .aload_n 0, 1, []), (43, .getfield 46, 3, [105]), (46, .if_icmp .eq 22, 3, [35]), (49, .iload_n 2, 1, []), (50, .iconst (-1), 1, []), (51, .if_icmp .eq 14, 3, [34]), (54, .aload_n 0, 1, []), (55, .getfield 24, 3, [103]), (58, .iload 4, 2, []), (60, .iaload, 1, []), (61, .iload_n 2, 1, []), (62, .if_icmp .ne 6, 3, [35]), (65, .iinc 3 1, 3, []), (68, .aload_n 0, 1, []), (69, .getfield 27, 3, [104]), (72, .iload 4, 2, []), (74, .aload_n 0, 1, []), (75, .getfield 46, 3, [105]), (78, .iastore, 1, []), (79, .aload_n 0, 1, []), (80, .getfield 21, 3, [102]), (83, .iload 4, 2, []), (85, .iaload, 1, []), (86, .istore 4, 2, []), (88, .iinc 5 1, 3, []), (91, .goto (-80), 3, [7]), (94, .iload_n 3, 1, []), (95, .ireturn, 1, [])]
def p_Cells_markRow : zz_P := (16, ⟨"TurnQueues$Cells", "markRow", "(LTurnQueues$Row;I)I"⟩, prog_3_method_10_code, 6, (some .int), q_Cells_markRow)
set_option maxRecDepth 100000 in
theorem k_Cells_markRow : zz_okP p_Cells_markRow := ⟨by decide +kernel, zz_mem_r [325, 329, 262, 262, 263, 261, 262, 263, 260] rfl (by decide +kernel)⟩
set_option maxRecDepth 100000 in
theorem o_Cells_markRow : zz_okC p_Cells_markRow false 1 3 := zz_okV (zz_mem_r (ws := [Cond.code p_Cells_markRow.y p_Cells_markRow.bytes p_Cells_markRow.maxL p_Cells_markRow.ret, Cond.initialized p_Cells_markRow.y.cls, Cond.instanceMethod p_Cells_markRow.y, Cond.selects p_Cells_markRow.y.cls p_Cells_markRow.y p_Cells_markRow.y]) [1079, 103, 1078, 29] rfl (by decide +kernel)) rfl rfl (by decide +kernel) (by decide +kernel) rfl (by decide +kernel) rfl
end
section
/-! the code of the methods, printed by program -/
def q_Deeds_clear : List zz_C := [(0, .aload_n 0, 1, []), (1, .iconst 0, 1, []), (2, .putfield 21, 3, [200]), (5, .aload_n 0, 1, []), (6, .iconst 0, 1, []), (7, .putfield 25, 3, [201]), (10, .aload_n 0, 1, []), (11, .iconst 0, 1, []), (12, .putfield 29, 3, [202]), (15, .aload_n 0, 1, []), (16, .iconst 0, 1, []), (17, .putfield 32, 3, [203]), (20, .aload_n 0, 1, []), (21, .iconst 0, 1, []), (22, .putfield 35, 3, [204]), (25, .return_, 1, [])]
def p_Deeds_clear : zz_P := (18, ⟨"TurnQueues$Deeds", "clear", "()V"⟩, prog_4_method_2_code, 1, none, q_Deeds_clear)
set_option maxRecDepth 100000 in
theorem k_Deeds_clear : zz_okP p_Deeds_clear := ⟨by decide +kernel, zz_mem_r [155, 160, 166, 170, 173] rfl (by decide +kernel)⟩
set_option maxRecDepth 100000 in
theorem o_Deeds_clear : zz_okC p_Deeds_clear false 2 1 := zz_okV (zz_mem_r (ws := [Cond.code p_Deeds_clear.y p_Deeds_clear.bytes p_Deeds_clear.maxL p_Deeds_clear.ret, Cond.initialized p_Deeds_clear.y.cls, Cond.instanceMethod p_Deeds_clear.y, Cond.selects p_Deeds_clear.y.cls p_Deeds_clear.y p_Deeds_clear.y]) [594, 100, 592, 593] rfl (by decide +kernel)) rfl rfl (by decide +kernel) (by decide +kernel) rfl (by decide +kernel) rfl
def q_Deeds_become : List zz_C := [(0, .aload_n 0, 1, []), (1, .aload_n 1, 1, []), (2, .getfield 21, 3, [200]), (5, .putfield 21, 3, [200]), (8, .aload_n 0, 1, []), (9, .aload_n 1, 1, []), (10, .getfield 25, 3, [201]), (13, .putfield 25, 3, [201]), (16, .aload_n 0, 1, []), (17, .aload_n 1, 1, []), (18, .getfield 29, 3, [202]), (21, .putfield 29, 3, [202]), (24, .aload_n 0, 1, []), (25, .aload_n 1, 1, []), (26, .getfield 32, 3, [203]), (29, .putfield 32, 3, [203]), (32, .aload_n 0, 1, []), (33, .aload_n 1, 1, []), (34, .getfield 35, 3, [204]), (37, .putfield 35, 3, [204]), (40, .iconst 0, 1, []), (41, .istore_n 2, 1, []), (42, .iload_n 2, 1, []), (43, .bipush 60, 2, []), (45, .if_icmp .ge 45, 3, [51]), (48, .aload_n 0, 1, []), (49, .getfield 9, 3, [205]), (52, .iload_n 2, 1, []), (53, .aload_n 1, 1, []), (54, .getfield 9, 3, [205]), (57, .iload_n 2, 1, []), (58, .iaload, 1, []), (59, .iastore, 1, []), (60, .aload_n 0, 1, []), (61, .getfield 15, 3, [206]), (64, .iload_n 2, 1, []), (65, .aload_n 1, 1, []), (66, .getfield 15, 3, [206]), (69, .iload_n 2, 1, []), (70, .iaload, 1, []), (71, .iastore, 1, []), (72, .aload_n 0, 1, []), (73, .getfield 18, 3, [207]), (76, .iload_n 2, 1, []), (77, .aload_n 1, 1, []), (78, .getfield 18, 3, [207]), (81, .iload_n 2, 1, []), (82, .iaload, 1, []), (83, .iastore, 1, []), (84, .iinc 2 1, 3, []), (87, .goto (-45), 3, [22]), (90, .return_, 1, [])]
def p_Deeds_become : zz_P := (19, ⟨"TurnQueues$Deeds", "become", "(LTurnQueues$Deeds;)V"⟩, prog_4_method_3_code, 3, none, q_Deeds_become)
set_option maxRecDepth 100000 in
theorem k_Deeds_become : zz_okP p_Deeds_become := ⟨by decide +kernel, zz_mem_r [155, 155, 160, 160, 166, 166, 170, 170, 173, 173, 177, 177, 181, 181, 185, 185] rfl (by decide +kernel)⟩
set_option maxRecDepth 100000 in
theorem o_Deeds_become : zz_okC p_Deeds_become false 2 2 := zz_okV (zz_mem_r (ws := [Cond.code p_Deeds_become.y p_Deeds_become.bytes p_Deeds_become.maxL p_Deeds_become.ret, Cond.initialized p_Deeds_become.y.cls, Cond.instanceMethod p_Deeds_become.y, Cond.selects p_Deeds_become.y.cls p_Deeds_become.y p_Deeds_become.y]) [728, 100, 726, 727] rfl (by decide +kernel)) rfl rfl (by decide +kernel) (by decide +kernel) rfl (by decide +kernel) rfl
def q_Deeds_add : List zz_C := [(0, .aload_n 0, 1, []), (1, .getfield 35, 3, [204]), (4, .ifCond .lt 52, 3, [31]), (7, .aload_n 0, 1, []), (8, .getfield 35, 3, [204]), (11, .bipush 60, 2, []), (13, .if_icmp .ge 43, 3, [31]), (16, .aload_n 0, 1, []), (17, .getfield 9, 3, [205]), (20, .aload_n 0, 1, []), (21, .getfield 35, 3, [204]), (24, .iload_n 1, 1, []), (25, .iastore, 1, []), (26, .aload_n 0, 1, []), (27, .getfield 15, 3, [206]), (30, .aload_n 0, 1, []), (31, .getfield 35, 3, [204]), (34, .iload_n 2, 1, []), (35, .iastore, 1, []), (36, .aload_n 0, 1, []), (37, .getfield 18, 3, [207]), (40, .aload_n 0, 1, []), (41, .getfield 35, 3, [204]), (44, .iload_n 3, 1, []), (45, .iastore, 1, []), (46, .aload_n 0, 1, []), (47, .dup, 1, []), (48, .getfield 35, 3, [204]), (51, .iconst 1, 1, []), (52, .iadd, 1, []), (53, .putfield 35, 3, [204]), (56, .return_, 1, [])]
def p_Deeds_add : zz_P := (20, ⟨"TurnQueues$Deeds", "add", "(III)V"⟩, prog_4_method_4_code, 4, none, q_Deeds_add)
set_option maxRecDepth 100000 in
theorem k_Deeds_add : zz_okP p_Deeds_add := ⟨by decide +kernel, zz_mem_r [173, 173, 177, 173, 181, 173, 185, 173, 173, 173] rfl (by decide +kernel)⟩
set_option maxRecDepth 100000 in
theorem o_Deeds_add : zz_okC p_Deeds_add false 2 4 := zz_okV (zz_mem_r (ws := [Cond.code p_Deeds_add.y p_Deeds_add.bytes p_Deeds_add.maxL p_Deeds_add.ret, Cond.initialized p_Deeds_add.y.cls, Cond.instanceMethod p_Deeds_add.y, Cond.selects p_Deeds_add.y.cls p_Deeds_add.y p_Deeds_add.y]) [720, 100, 718, 719] rfl (by decide +kernel)) rfl rfl (by decide +kernel) (by decide +kernel) rfl (by decide +kernel) rfl
def q_Deeds_versions : List zz_C := [(0, .aload_n 0, 1, []), (1, .getfield 21, 3, [200]), (4, .ifCond .eq 12, 3, [8]), (7, .aload_n 0, 1, []), (8, .getfield 35, 3, [204]), (11, .iconst 1, 1, []), (12, .iadd, 1, []), (13, .goto 4, 3, [9]), (16, .iconst 0, 1, []), (17, .ireturn, 1, [])]
def p_Deeds_versions : zz_P := (21, ⟨"TurnQueues$Deeds", "versions", "()I"⟩, prog_4_method_5_code, 1, (some .int), q_Deeds_versions)
set_option maxRecDepth 100000 in
theorem k_Deeds_versions : zz_okP p_Deeds_versions := ⟨by decide +kernel, zz_mem_r [155, 173] rfl (by decide +kernel)⟩
set_option maxRecDepth 100000 in
theorem o_Deeds_versions : zz_okC p_Deeds_versions false 2 1 := zz_okV (zz_mem_r (ws := [Cond.code p_Deeds_versions.y p_Deeds_versions.bytes p_Deeds_versions.maxL p_Deeds_versions.ret, Cond.initialized p_Deeds_versions.y.cls, Cond.instanceMethod p_Deeds_versions.y, Cond.selects p_Deeds_versions.y.cls p_Deeds_versions.y p_Deeds_versions.y]) [752, 100, 750, 751] rfl (by decide +kernel)) rfl rfl (by decide +kernel) (by decide +kernel) rfl (by decide +kernel) rfl
def q_Deeds_lines : List zz_C := [(0, .aload_n 0, 1, []), (1, .getfield 21, 3, [200]), (4, .ifCond .eq 12, 3, [8]), (7, .aload_n 0, 1, []), (8, .getfield 32, 3, [203]), (11, .iconst 1, 1, []), (12, .iadd, 1, []), (13, .goto 4, 3, [9]), (16, .iconst 0, 1, []), (17, .ireturn, 1, [])]
def p_Deeds_lines : zz_P := (22, ⟨"TurnQueues$Deeds", "lines", "()I"⟩, prog_4_method_6_code, 1, (some .int), q_Deeds_lines)
set_option maxRecDepth 100000 in
theorem k_Deeds_lines : zz_okP p_Deeds_lines := ⟨by decide +kernel, zz_mem_r [155, 170] rfl (by decide +kernel)⟩
set_option maxRecDepth 100000 in
theorem o_Deeds_lines : zz_okC p_Deeds_lines false 2 1 := zz_okV (zz_mem_r (ws := [Cond.code p_Deeds_lines.y p_Deeds_lines.bytes p_Deeds_lines.maxL p_Deeds_lines.ret, Cond.initialized p_Deeds_lines.y.cls, Cond.instanceMethod p_Deeds_lines.y, Cond.selects p_Deeds_lines.y.cls p_Deeds_lines.y p_Deeds_lines.y]) [865, 100, 863, 864] rfl (by decide +kernel)) rfl rfl (by decide +kernel) (by decide +kernel) rfl (by decide +kernel) rfl
def q_Deeds_acts : List zz_C := [(0, .aload_n 0, 1, []), (1, .getfield 35, 3, [204]), (4, .aload_n 0, 1, []), (5, .getfield 32, 3, [203]), (8, .isub, 1, []), (9, .ireturn, 1, [])]
def p_Deeds_acts : zz_P := (23, ⟨"TurnQueues$Deeds", "acts", "()I"⟩, prog_4_method_7_code, 1, (some .int), q_Deeds_acts)
set_option maxRecDepth 100000 in
theorem k_Deeds_acts : zz_okP p_Deeds_acts := ⟨by decide +kernel, zz_mem_r [173, 170] rfl (by decide +kernel)⟩
set_option maxRecDepth 100000 in
theorem o_Deeds_acts : zz_okC p_Deeds_acts false 2 1 := zz_okV (zz_mem_r (ws := [Cond.code p_Deeds_acts.y p_Deeds_acts.bytes p_Deeds_acts.maxL p_Deeds_acts.ret, Cond.initialized p_Deeds_acts.y.cls, Cond.instanceMethod p_Deeds_acts.y, Cond.selects p_Deeds_acts.y.cls p_Deeds_acts.y p_Deeds_acts.y]) [878, 100, 876, 877] rfl (by decide +kernel)) rfl rfl (by decide +kernel) (by decide +kernel) rfl (by decide +kernel) rfl
def q_Deeds_hasVersion : List zz_C := [(0, .iload_n 1, 1, []), (1, .ifCond .lt 21, 3, [11]), (4, .iload_n 1, 1, []), (5, .aload_n 0, 1, []), (6, .invokevirtual 38, 3, [21]), (9, .if_icmp .ge 13, 3, [11]), (12, .iload_n 1, 1, []), (13, .bipush 61, 2, []), (15, .if_icmp .ge 7, 3, [11]), (18, .iconst 1, 1, []), (19, .goto 4, 3, [12]), (22, .iconst 0, 1, []), (23, .ireturn, 1, [])]
def p_Deeds_hasVersion : zz_P := (24, ⟨"TurnQueues$Deeds", "hasVersion", "(I)Z"⟩, prog_4_method_8_code, 2, (some .boolean), q_Deeds_hasVersion)
set_option maxRecDepth 100000 in
theorem k_Deeds_hasVersion : zz_okP p_Deeds_hasVersion := ⟨by decide +kernel, zz_mem_r [749] rfl (by decide +kernel)⟩
set_option maxRecDepth 100000 in
theorem o_Deeds_hasVersion : zz_okC p_Deeds_hasVersion false 2 2 := zz_okV (zz_mem_r (ws := [Cond.code p_Deeds_hasVersion.y p_Deeds_hasVersion.bytes p_Deeds_hasVersion.maxL p_Deeds_hasVersion.ret, Cond.initialized p_Deeds_hasVersion.y.cls, Cond.instanceMethod p_Deeds_hasVersion.y, Cond.selects p_Deeds_hasVersion.y.cls p_Deeds_hasVersion.y p_Deeds_hasVersion.y]) [748, 100, 746, 747] rfl (by decide +kernel)) rfl rfl (by decide +kernel) (by decide +kernel) rfl (by decide +kernel) rfl
def q_Deeds_hasDeed : List zz_C := [(0, .iload_n 1, 1, []), (1, .ifCond .lt 21, 3, [11]), (4, .iload_n 1, 1, []), (5, .aload_n 0, 1, []), (6, .getfield 35, 3, [204]), (9, .if_icmp .ge 13, 3, [11]), (12, .iload_n 1, 1, []), (13, .bipush 60, 2, []), (15, .if_icmp .ge 7, 3, [11]), (18, .iconst 1, 1, []), (19, .goto 4, 3, [12]), (22, .iconst 0, 1, []), (23, .ireturn, 1, [])]
def p_Deeds_hasDeed : zz_P := (25, ⟨"TurnQueues$Deeds", "hasDeed", "(I)Z"⟩, prog_4_method_9_code, 2, (some .boolean), q_Deeds_hasDeed)
set_option maxRecDepth 100000 in
theorem k_Deeds_hasDeed : zz_okP p_Deeds_hasDeed := ⟨by decide +kernel, zz_mem_r [173] rfl (by decide +kernel)⟩
set_option maxRecDepth 100000 in
theorem o_Deeds_hasDeed : zz_okC p_Deeds_hasDeed false 2 2 := zz_okV (zz_mem_r (ws := [Cond.code p_Deeds_hasDeed.y p_Deeds_hasDeed.bytes p_Deeds_hasDeed.maxL p_Deeds_hasDeed.ret, Cond.initialized p_Deeds_hasDeed.y.cls, Cond.instanceMethod p_Deeds_hasDeed.y, Cond.selects p_Deeds_hasDeed.y.cls p_Deeds_hasDeed.y p_Deeds_hasDeed.y]) [736, 100, 734, 735] rfl (by decide +kernel)) rfl rfl (by decide +kernel) (by decide +kernel) rfl (by decide +kernel) rfl
def q_Deeds_baseOf : List zz_C := [(0, .aload_n 0, 1, []), (1, .iload_n 1, 1, []), (2, .iconst 1, 1, []), (3, .isub, 1, []), (4, .invokevirtual 42, 3, [25]), (7, .ifCond .eq 14, 3, [13]), (10, .aload_n 0, 1, []), (11, .getfield 15, 3, [206]), (14, .iload_n 1, 1, []), (15, .iconst 1, 1, []), (16, .isub, 1, []), (17, .iaload, 1, []), (18, .goto 4, 3, [14]), (21, .iconst (-1), 1, []), (22, .ireturn, 1, [])]
def p_Deeds_baseOf : zz_P := (26, ⟨"TurnQueues$Deeds", "baseOf", "(I)I"⟩, prog_4_method_10_code, 2, (some .int), q_Deeds_baseOf)
set_option maxRecDepth 100000 in
theorem k_Deeds_baseOf : zz_okP p_Deeds_baseOf := ⟨by decide +kernel, zz_mem_r [923, 181] rfl (by decide +kernel)⟩
set_option maxRecDepth 100000 in
theorem o_Deeds_baseOf : zz_okC p_Deeds_baseOf false 2 2 := zz_okV (zz_mem_r (ws := [Cond.code p_Deeds_baseOf.y p_Deeds_baseOf.bytes p_Deeds_baseOf.maxL p_Deeds_baseOf.ret, Cond.initialized p_Deeds_baseOf.y.cls, Cond.instanceMethod p_Deeds_baseOf.y, Cond.selects p_Deeds_baseOf.y.cls p_Deeds_baseOf.y p_Deeds_baseOf.y]) [935, 100, 933, 934] rfl (by decide +kernel)) rfl rfl (by decide +kernel) (by decide +kernel) rfl (by decide +kernel) rfl
def q_Deeds_depth : List zz_C := [(0, .iconst 0, 1, []), (1, .istore_n 2, 1, []), (2, .aload_n 0, 1, []), (3, .iload_n 1, 1, []), (4, .invokevirtual 46, 3, [26]), (7, .istore_n 3, 1, []), (8, .iload_n 3, 1, []), (9, .iconst (-1), 1, []), (10, .if_icmp .eq 21, 3, [18]), (13, .iload_n 2, 1, []), (14, .bipush 60, 2, []), (16, .if_icmp .ge 15, 3, [18]), (19, .iinc 2 1, 3, []), (22, .aload_n 0, 1, []), (23, .iload_n 3, 1, []), (24, .invokevirtual 46, 3, [26]), (27, .istore_n 3, 1, []), (28, .goto (-20), 3, [6]), (31, .iload_n 2, 1, []), (32, .ireturn, 1, [])]
def p_Deeds_depth : zz_P := (27, ⟨"TurnQueues$Deeds", "depth", "(I)I"⟩, prog_4_method_11_code, 4, (some .int), q_Deeds_depth)
set_option maxRecDepth 100000 in
theorem k_Deeds_depth : zz_okP p_Deeds_depth := ⟨by decide +kernel, zz_mem_r [932, 932] rfl (by decide +kernel)⟩
set_option maxRecDepth 100000 in
theorem o_Deeds_depth : zz_okC p_Deeds_depth false 2 2 := zz_okV (zz_mem_r (ws := [Cond.code p_Deeds_depth.y p_Deeds_depth.bytes p_Deeds_depth.maxL p_Deeds_depth.ret, Cond.initialized p_Deeds_depth.y.cls, Cond.instanceMethod p_Deeds_depth.y, Cond.selects p_Deeds_depth.y.cls p_Deeds_depth.y p_Deeds_depth.y]) [943, 100, 941, 942] rfl (by decide +kernel)) rfl rfl (by decide +kernel) (by decide +kernel) rfl (by decide +kernel) rfl
def q_Deeds_meeting : List zz_C := [(0, .iload_n 1, 1, []), (1, .istore_n 3, 1, []), (2, .iload_n 2, 1, []), (3, .istore 4, 2, []), (5, .iconst 0, 1, []), (6, .istore 5, 2, []), (8, .iload 5, 2, []), (10, .bipush 122, 2, []), (12, .if_icmp .ge 38, 3, [26]), (15, .iload_n 3, 1, []), (16, .iload 4, 2, []), (18, .if_icmp .eq 32, 3, [26]), (21, .iload_n 3, 1, []), (22, .iload 4, 2, []), (24, .if_icmp .le 12, 3, [20]), (27, .aload_n 0, 1, []), (28, .iload_n 3, 1, []), (29, .invokevirtual 46, 3, [26]), (32, .istore_n 3, 1, []), (33, .goto 11, 3, [24]), (36, .aload_n 0, 1, []), (37, .iload 4, 2, []), (39, .invokevirtual 46, 3, [26]), (42, .istore 4, 2, []), (44, .iinc 5 1, 3, []), (47, .goto (-39), 3, [6]), (50, .iload_n 3, 1, []), (51, .ireturn, 1, [])]
def p_Deeds_meeting : zz_P := (28, ⟨"TurnQueues$Deeds", "meeting", "(II)I"⟩, prog_4_method_12_code, 6, (some .int), q_Deeds_meeting)
set_option maxRecDepth 100000 in
theorem k_Deeds_meeting : zz_okP p_Deeds_meeting := ⟨by decide +kernel, zz_mem_r [932, 932] rfl (by decide +kernel)⟩
set_option maxRecDepth 100000 in
theorem o_Deeds_meeting : zz_okC p_Deeds_meeting false 2 3 := zz_okV (zz_mem_r (ws := [Cond.code p_Deeds_meeting.y p_Deeds_meeting.bytes p_Deeds_meeting.maxL p_Deeds_meeting.ret, Cond.initialized p_Deeds_meeting.y.cls, Cond.instanceMethod p_Deeds_meeting.y, Cond.selects p_Deeds_meeting.y.cls p_Deeds_meeting.y p_Deeds_meeting.y]) [931, 100, 929, 930] rfl (by decide +kernel)) rfl rfl (by decide +kernel) (by decide +kernel) rfl (by decide +kernel) rfl
def q_Deeds_madeOf : List zz_C := [(0, .iconst 0, 1, []), (1, .istore_n 2, 1, []), (2, .iconst 0, 1, []), (3, .istore_n 3, 1, []), (4, .aload_n 0, 1, []), (5, .iload_n 3, 1, []), (6, .invokevirtual 42, 3, [25]), (9, .ifCond .eq 27, 3, [22]), (12, .iload_n 2, 1, []), (13, .aload_n 0, 1, []), (14, .getfield 15, 3, [206]), (17, .iload_n 3, 1, []), (18, .iaload, 1, []), (19, .iload_n 1, 1, []), (20, .if_icmp .ne 7, 3, [17]), (23, .iconst 1, 1, []), (24, .goto 4, 3, [18]), (27, .iconst 0, 1, []), (28, .iadd, 1, []), (29, .istore_n 2, 1, []), (30, .iinc 3 1, 3, []), (33, .goto (-29), 3, [4]), (36, .iload_n 2, 1, []), (37, .ireturn, 1, [])]
def p_Deeds_madeOf : zz_P := (29, ⟨"TurnQueues$Deeds", "madeOf", "(I)I"⟩, prog_4_method_13_code, 4, (some .int), q_Deeds_madeOf)
set_option maxRecDepth 100000 in
theorem k_Deeds_madeOf : zz_okP p_Deeds_madeOf := ⟨by decide +kernel, zz_mem_r [923, 181] rfl (by decide +kernel)⟩
set_option maxRecDepth 100000 in
theorem o_Deeds_madeOf : zz_okC p_Deeds_madeOf false 2 2 := zz_okV (zz_mem_r (ws := [Cond.code p_Deeds_madeOf.y p_Deeds_madeOf.bytes p_Deeds_madeOf.maxL p_Deeds_madeOf.ret, Cond.initialized p_Deeds_madeOf.y.cls, Cond.instanceMethod p_Deeds_madeOf.y, Cond.selects p_Deeds_madeOf.y.cls p_Deeds_madeOf.y p_Deeds_madeOf.y]) [922, 100, 920, 921] rfl (by decide +kernel)) rfl rfl (by decide +kernel) (by decide +kernel) rfl (by decide +kernel) rfl
def q_Deeds_lawRefusal : List zz_C := [(0, .aload_n 0, 1, []), (1, .getfield 21, 3, [200]), (4, .ifCond .eq 12, 3, [8]), (7, .iload_n 1, 1, []), (8, .ifCond .lt 8, 3, [8]), (11, .iload_n 1, 1, []), (12, .iconst 2, 1, []), (13, .if_icmp .le 6, 3, [10]), (16, .bipush (-2), 2, []), (18, .ireturn, 1, []), (19, .iconst 0, 1, []), (20, .istore_n 2, 1, []), (21, .iload_n 1, 1, []), (22, .iconst 2, 1, []), (23, .if_icmp .eq 39, 3, [35]), (26, .aload_n 0, 1, []), (27, .iload_n 2, 1, []), (28, .invokevirtual 42, 3, [25]), (31, .ifCond .eq 31, 3, [35]), (34, .aload_n 0, 1, []), (35, .getfield 9, 3, [205]), (38, .iload_n 2, 1, []), (39, .iaload, 1, []), (40, .iconst 2, 1, []), (41, .if_icmp .eq 13, 3, [31]), (44, .aload_n 0, 1, []), (45, .getfield 9, 3, [205]), (48, .iload_n 2, 1, []), (49, .iaload, 1, []), (50, .iconst 3, 1, []), (51, .if_icmp .ne 5, 3, [33]), (54, .iconst (-1), 1, []), (55, .ireturn, 1, []), (56, .iinc 2 1, 3, []), (59, .goto (-38), 3, [12]), (62, .iconst 0, 1, []), (63, .ireturn, 1, [])]
def p_Deeds_lawRefusal : zz_P := (30, ⟨"TurnQueues$Deeds", "lawRefusal", "(I)I"⟩, prog_4_method_14_code, 3, (some .int), q_Deeds_lawRefusal)
set_option maxRecDepth 100000 in
theorem k_Deeds_lawRefusal : zz_okP p_Deeds_lawRefusal := ⟨by decide +kernel, zz_mem_r [155, 923, 177, 177] rfl (by decide +kernel)⟩
set_option maxRecDepth 100000 in
theorem o_Deeds_lawRefusal : zz_okC p_Deeds_lawRefusal false 2 2 := zz_okV (zz_mem_r (ws := [Cond.code p_Deeds_lawRefusal.y p_Deeds_lawRefusal.bytes p_Deeds_lawRefusal.maxL p_Deeds_lawRefusal.ret, Cond.initialized p_Deeds_lawRefusal.y.cls, Cond.instanceMethod p_Deeds_lawRefusal.y, Cond.selects p_Deeds_lawRefusal.y.cls p_Deeds_lawRefusal.y p_Deeds_lawRefusal.y]) [1149, 100, 1147, 1148] rfl (by decide +kernel)) rfl rfl (by decide +kernel) (by decide +kernel) rfl (by decide +kernel) rfl
end
section
/-! the code of the methods, printed by program -/
def q_History_become : List zz_C := [(0, .aload_n 0, 1, []), (1, .getfield 12, 3, [300]), (4, .aload_n 1, 1, []), (5, .invokevirtual 72, 3, [19]), (8, .aload_n 0, 1, []), (9, .getfield 31, 3, [302]), (12, .iconst 0, 1, []), (13, .putfield 76, 3, [100]), (16, .aload_n 0, 1, []), (17, .getfield 23, 3, [301]), (20, .aload_n 0, 1, []), (21, .getfield 12, 3, [300]), (24, .getfield 82, 3, [201]), (27, .aload_n 0, 1, []), (28, .getfield 12, 3, [300]), (31, .getfield 85, 3, [202]), (34, .invokevirtual 88, 3, [59]), (37, .iconst 0, 1, []), (38, .istore_n 2, 1, []), (39, .aload_n 0, 1, []), (40, .getfield 12, 3, [300]), (43, .iload_n 2, 1, []), (44, .invokevirtual 91, 3, [25]), (47, .ifCond .eq 14, 3, [29]), (50, .aload_n 0, 1, []), (51, .iload_n 2, 1, []), (52, .invokevirtual 95, 3, [33]), (55, .iinc 2 1, 3, []), (58, .goto (-19), 3, [19]), (61, .return_, 1, [])]
def p_History_become : zz_P := (32, ⟨"TurnQueues$History", "become", "(LTurnQueues$Deeds;)V"⟩, prog_5_method_2_code, 3, none, q_History_become)
set_option maxRecDepth 100000 in
theorem k_History_become : zz_okP p_History_become := ⟨by decide +kernel, zz_mem_r [426, 725, 430, 256, 429, 426, 161, 426, 167, 729, 426, 733, 737] rfl (by decide +kernel)⟩
set_option maxRecDepth 100000 in
theorem o_History_become : zz_okC p_History_become false 3 2 := zz_okV (zz_mem_r (ws := [Cond.code p_History_become.y p_History_become.bytes p_History_become.maxL p_History_become.ret, Cond.initialized p_History_become.y.cls, Cond.instanceMethod p_History_become.y, Cond.selects p_History_become.y.cls p_History_become.y p_History_become.y]) [724, 101, 722, 723] rfl (by decide +kernel)) rfl rfl (by decide +kernel) (by decide +kernel) rfl (by decide +kernel) rfl
def q_History_enact : List zz_C := [(0, .aload_n 0, 1, []), (1, .getfield 12, 3, [300]), (4, .iload_n 1, 1, []), (5, .invokevirtual 91, 3, [25]), (8, .ifCond .ne 4, 3, [6]), (11, .return_, 1, []), (12, .aload_n 0, 1, []), (13, .aload_n 0, 1, []), (14, .getfield 12, 3, [300]), (17, .getfield 98, 3, [206]), (20, .iload_n 1, 1, []), (21, .iaload, 1, []), (22, .invokevirtual 101, 3, [34]), (25, .astore_n 2, 1, []), (26, .aload_n 0, 1, []), (27, .aload_n 0, 1, []), (28, .getfield 12, 3, [300]), (31, .getfield 98, 3, [206]), (34, .iload_n 1, 1, []), (35, .iaload, 1, []), (36, .invokevirtual 105, 3, [35]), (39, .astore_n 3, 1, []), (40, .aload_n 0, 1, []), (41, .iload_n 1, 1, []), (42, .iconst 1, 1, []), (43, .iadd, 1, []), (44, .invokevirtual 101, 3, [34]), (47, .astore 4, 2, []), (49, .aload_n 0, 1, []), (50, .iload_n 1, 1, []), (51, .iconst 1, 1, []), (52, .iadd, 1, []), (53, .invokevirtual 105, 3, [35]), (56, .astore 5, 2, []), (58, .aload_n 2, 1, []), (59, .ifnull 17, 3, [42]), (62, .aload_n 3, 1, []), (63, .ifnull 13, 3, [42]), (66, .aload 4, 2, []), (68, .ifnull 8, 3, [42]), (71, .aload 5, 2, []), (73, .ifnonnull 4, 3, [43]), (76, .return_, 1, []), (77, .aload_n 0, 1, []), (78, .getfield 12, 3, [300]), (81, .getfield 109, 3, [205]), (84, .iload_n 1, 1, []), (85, .iaload, 1, []), (86, .istore 6, 2, []), (88, .aload 5, 2, []), (90, .aload_n 3, 1, []), (91, .invokevirtual 112, 3, [73]), (94, .aload_n 0, 1, []), (95, .getfield 12, 3, [300]), (98, .getfield 115, 3, [207]), (101, .iload_n 1, 1, []), (102, .aload 5, 2, []), (104, .iload 6, 2, []), (106, .aload_n 0, 1, []), (107, .getfield 12, 3, [300]), (110, .getfield 115, 3, [207]), (113, .iload_n 1, 1, []), (114, .iaload, 1, []), (115, .invokevirtual 118, 3, [75]), (118, .iastore, 1, []), (119, .aload 4, 2, []), (121, .aload_n 2, 1, []), (122, .invokevirtual 122, 3, [108]), (125, .aload_n 0, 1, []), (126, .getfield 52, 3, [307]), (129, .iload_n 1, 1, []), (130, .aload_n 0, 1, []), (131, .getfield 31, 3, [302]), (134, .getfield 76, 3, [100]), (137, .iastore, 1, []), (138, .aload_n 0, 1, []), (139, .getfield 44, 3, [305]), (142, .iload_n 1, 1, []), (143, .aload_n 0, 1, []), (144, .getfield 23, 3, [301]), (147, .aload 4, 2, []), (149, .iload 6, 2, []), (151, .aload_n 0, 1, []), (152, .getfield 12, 3, [300]), (155, .getfield 115, 3, [207]), (158, .iload_n 1, 1, []), (159, .iaload, 1, []), (160, .iload_n 1, 1, []), (161, .invokevirtual 125, 3, [60]), (164, .iastore, 1, []), (165, .aload_n 0, 1, []), (166, .getfield 48, 3, [306]), (169, .iload_n 1, 1, []), (170, .aload_n 0, 1, []), (171, .getfield 23, 3, [301]), (174, .getfield 129, 3, [402]), (177, .bastore, 1, []), (178, .return_, 1, [])]
def p_History_enact : zz_P := (33, ⟨"TurnQueues$History", "enact", "(I)V"⟩, prog_5_method_3_code, 7, none, q_History_enact)
set_option maxRecDepth 100000 in
theorem k_History_enact : zz_okP p_History_enact := ⟨by decide +kernel, zz_mem_r [426, 733, 426, 182, 741, 426, 182, 753, 741, 753, 426, 179, 757, 426, 186, 426, 186, 766, 778, 436, 430, 256, 434, 429, 426, 186, 786, 435, 429, 283] rfl (by decide +kernel)⟩
set_option maxRecDepth 100000 in
theorem o_History_enact : zz_okC p_History_enact false 3 2 := zz_okV (zz_mem_r (ws := [Cond.code p_History_enact.y p_History_enact.bytes p_History_enact.maxL p_History_enact.ret, Cond.initialized p_History_enact.y.cls, Cond.instanceMethod p_History_enact.y, Cond.selects p_History_enact.y.cls p_History_enact.y p_History_enact.y]) [740, 101, 739, 12] rfl (by decide +kernel)) rfl rfl (by decide +kernel) (by decide +kernel) rfl (by decide +kernel) rfl
def q_History_stateOf : List zz_C := [(0, .aload_n 0, 1, []), (1, .getfield 12, 3, [300]), (4, .iload_n 1, 1, []), (5, .invokevirtual 133, 3, [24]), (8, .ifCond .eq 12, 3, [10]), (11, .aload_n 0, 1, []), (12, .getfield 34, 3, [303]), (15, .iload_n 1, 1, []), (16, .aaload, 1, []), (17, .goto 4, 3, [11]), (20, .aconst_null, 1, []), (21, .areturn, 1, [])]
def p_History_stateOf : zz_P := (34, ⟨"TurnQueues$History", "stateOf", "(I)LTurnQueues$State;"⟩, prog_5_method_4_code, 2, (some (.object "TurnQueues$State")), q_History_stateOf)
set_option maxRecDepth 100000 in
theorem k_History_stateOf : zz_okP p_History_stateOf := ⟨by decide +kernel, zz_mem_r [426, 745, 432] rfl (by decide +kernel)⟩
set_option maxRecDepth 100000 in
theorem o_History_stateOf : zz_okC p_History_stateOf false 3 2 := zz_okV (zz_mem_r (ws := [Cond.code p_History_stateOf.y p_History_stateOf.bytes p_History_stateOf.maxL p_History_stateOf.ret, Cond.initialized p_History_stateOf.y.cls, Cond.instanceMethod p_History_stateOf.y, Cond.selects p_History_stateOf.y.cls p_History_stateOf.y p_History_stateOf.y]) [744, 101, 742, 743] rfl (by decide +kernel)) rfl rfl (by decide +kernel) (by decide +kernel) rfl (by decide +kernel) rfl
def q_History_queueOf : List zz_C := [(0, .aload_n 0, 1, []), (1, .getfield 12, 3, [300]), (4, .iload_n 1, 1, []), (5, .invokevirtual 133, 3, [24]), (8, .ifCond .eq 12, 3, [10]), (11, .aload_n 0, 1, []), (12, .getfield 40, 3, [304]), (15, .iload_n 1, 1, []), (16, .aaload, 1, []), (17, .goto 4, 3, [11]), (20, .aconst_null, 1, []), (21, .areturn, 1, [])]
def p_History_queueOf : zz_P := (35, ⟨"TurnQueues$History", "queueOf", "(I)LTurnQueues$Numbers;"⟩, prog_5_method_5_code, 2, (some (.object "TurnQueues$Numbers")), q_History_queueOf)
set_option maxRecDepth 100000 in
theorem k_History_queueOf : zz_okP p_History_queueOf := ⟨by decide +kernel, zz_mem_r [426, 745, 433] rfl (by decide +kernel)⟩
set_option maxRecDepth 100000 in
theorem o_History_queueOf : zz_okC p_History_queueOf false 3 2 := zz_okV (zz_mem_r (ws := [Cond.code p_History_queueOf.y p_History_queueOf.bytes p_History_queueOf.maxL p_History_queueOf.ret, Cond.initialized p_History_queueOf.y.cls, Cond.instanceMethod p_History_queueOf.y, Cond.selects p_History_queueOf.y.cls p_History_queueOf.y p_History_queueOf.y]) [756, 101, 754, 755] rfl (by decide +kernel)) rfl rfl (by decide +kernel) (by decide +kernel) rfl (by decide +kernel) rfl
def q_History_rowOf : List zz_C := [(0, .aload_n 0, 1, []), (1, .iload_n 1, 1, []), (2, .invokevirtual 101, 3, [34]), (5, .astore_n 3, 1, []), (6, .aload_n 3, 1, []), (7, .ifnonnull 7, 3, [8]), (10, .aconst_null, 1, []), (11, .goto 8, 3, [11]), (14, .aload_n 3, 1, []), (15, .iload_n 2, 1, []), (16, .invokevirtual 136, 3, [110]), (19, .areturn, 1, [])]
def p_History_rowOf : zz_P := (36, ⟨"TurnQueues$History", "rowOf", "(II)LTurnQueues$Row;"⟩, prog_5_method_6_code, 4, (some (.object "TurnQueues$Row")), q_History_rowOf)
set_option maxRecDepth 100000 in
theorem k_History_rowOf : zz_okP p_History_rowOf := ⟨by decide +kernel, zz_mem_r [741, 957] rfl (by decide +kernel)⟩
set_option maxRecDepth 100000 in
theorem o_History_rowOf : zz_okC p_History_rowOf false 3 3 := zz_okV (zz_mem_r (ws := [Cond.code p_History_rowOf.y p_History_rowOf.bytes p_History_rowOf.maxL p_History_rowOf.ret, Cond.initialized p_History_rowOf.y.cls, Cond.instanceMethod p_History_rowOf.y, Cond.selects p_History_rowOf.y.cls p_History_rowOf.y p_History_rowOf.y]) [956, 101, 954, 955] rfl (by decide +kernel)) rfl rfl (by decide +kernel) (by decide +kernel) rfl (by decide +kernel) rfl
def q_History_hasAll : List zz_C := [(0, .aload_n 0, 1, []), (1, .getfield 12, 3, [300]), (4, .iload_n 1, 1, []), (5, .invokevirtual 133, 3, [24]), (8, .ifCond .eq 29, 3, [17]), (11, .aload_n 0, 1, []), (12, .getfield 12, 3, [300]), (15, .iload_n 2, 1, []), (16, .invokevirtual 133, 3, [24]), (19, .ifCond .eq 18, 3, [17]), (22, .aload_n 0, 1, []), (23, .getfield 12, 3, [300]), (26, .iload_n 3, 1, []), (27, .invokevirtual 133, 3, [24]), (30, .ifCond .eq 7, 3, [17]), (33, .iconst 1, 1, []), (34, .goto 4, 3, [18]), (37, .iconst 0, 1, []), (38, .ireturn, 1, [])]
def p_History_hasAll : zz_P := (37, ⟨"TurnQueues$History", "hasAll", "(III)Z"⟩, prog_5_method_7_code, 4, (some .boolean), q_History_hasAll)
set_option maxRecDepth 100000 in
theorem k_History_hasAll : zz_okP p_History_hasAll := ⟨by decide +kernel, zz_mem_r [426, 745, 426, 745, 426, 745] rfl (by decide +kernel)⟩
set_option maxRecDepth 100000 in
theorem o_History_hasAll : zz_okC p_History_hasAll false 3 4 := zz_okV (zz_mem_r (ws := [Cond.code p_History_hasAll.y p_History_hasAll.bytes p_History_hasAll.maxL p_History_hasAll.ret, Cond.initialized p_History_hasAll.y.cls, Cond.instanceMethod p_History_hasAll.y, Cond.selects p_History_hasAll.y.cls p_History_hasAll.y p_History_hasAll.y]) [1279, 101, 1277, 1278] rfl (by decide +kernel)) rfl rfl (by decide +kernel) (by decide +kernel) rfl (by decide +kernel) rfl
def q_History_actPutting : List zz_C := [(0, .aload_n 0, 1, []), (1, .getfield 12, 3, [300]), (4, .iload_n 2, 1, []), (5, .invokevirtual 133, 3, [24]), (8, .ifCond .eq 13, 3, [10]), (11, .iload_n 3, 1, []), (12, .ifCond .lt 9, 3, [10]), (15, .iload_n 3, 1, []), (16, .bipush 99, 2, []), (18, .if_icmp .le 6, 3, [12]), (21, .bipush (-2), 2, []), (23, .ireturn, 1, []), (24, .aload_n 0, 1, []), (25, .getfield 12, 3, [300]), (28, .invokevirtual 140, 3, [21]), (31, .bipush 61, 2, []), (33, .if_icmp .lt 6, 3, [19]), (36, .bipush (-5), 2, []), (38, .ireturn, 1, []), (39, .aload_n 0, 1, []), (40, .getfield 12, 3, [300]), (43, .iload_n 1, 1, []), (44, .iload_n 2, 1, []), (45, .iload_n 3, 1, []), (46, .invokevirtual 144, 3, [20]), (49, .aload_n 0, 1, []), (50, .aload_n 0, 1, []), (51, .getfield 12, 3, [300]), (54, .getfield 148, 3, [204]), (57, .iconst 1, 1, []), (58, .isub, 1, []), (59, .invokevirtual 95, 3, [33]), (62, .aload_n 0, 1, []), (63, .getfield 12, 3, [300]), (66, .getfield 148, 3, [204]), (69, .ireturn, 1, [])]
def p_History_actPutting : zz_P := (38, ⟨"TurnQueues$History", "actPutting", "(III)I"⟩, prog_5_method_8_code, 4, (some .int), q_History_actPutting)
set_option maxRecDepth 100000 in
theorem k_History_actPutting : zz_okP p_History_actPutting := ⟨by decide +kernel, zz_mem_r [426, 745, 426, 1088, 426, 1306, 426, 176, 737, 426, 176] rfl (by decide +kernel)⟩
set_option maxRecDepth 100000 in
theorem o_History_actPutting : zz_okC p_History_actPutting false 3 4 := zz_okV (zz_mem_r (ws := [Cond.code p_History_actPutting.y p_History_actPutting.bytes p_History_actPutting.maxL p_History_actPutting.ret, Cond.initialized p_History_actPutting.y.cls, Cond.instanceMethod p_History_actPutting.y, Cond.selects p_History_actPutting.y.cls p_History_actPutting.y p_History_actPutting.y]) [1323, 101, 1321, 1322] rfl (by decide +kernel)) rfl rfl (by decide +kernel) (by decide +kernel) rfl (by decide +kernel) rfl
def q_History_actTaking : List zz_C := [(0, .aload_n 0, 1, []), (1, .iload_n 2, 1, []), (2, .invokevirtual 105, 3, [35]), (5, .astore_n 3, 1, []), (6, .aload_n 3, 1, []), (7, .ifnonnull 6, 3, [8]), (10, .bipush (-2), 2, []), (12, .ireturn, 1, []), (13, .aload_n 3, 1, []), (14, .getfield 151, 3, [500]), (17, .ifCond .eq 15, 3, [16]), (20, .aload_n 0, 1, []), (21, .getfield 12, 3, [300]), (24, .invokevirtual 140, 3, [21]), (27, .bipush 61, 2, []), (29, .if_icmp .lt 6, 3, [18]), (32, .bipush (-5), 2, []), (34, .ireturn, 1, []), (35, .aload_n 3, 1, []), (36, .iload_n 1, 1, []), (37, .iconst 1, 1, []), (38, .if_icmp .ne 7, 3, [24]), (41, .iconst 0, 1, []), (42, .goto 9, 3, [28]), (45, .aload_n 3, 1, []), (46, .getfield 151, 3, [500]), (49, .iconst 1, 1, []), (50, .isub, 1, []), (51, .invokevirtual 152, 3, [74]), (54, .istore 4, 2, []), (56, .aload_n 0, 1, []), (57, .getfield 12, 3, [300]), (60, .iload_n 1, 1, []), (61, .iload_n 2, 1, []), (62, .iload 4, 2, []), (64, .invokevirtual 144, 3, [20]), (67, .aload_n 0, 1, []), (68, .aload_n 0, 1, []), (69, .getfield 12, 3, [300]), (72, .getfield 148, 3, [204]), (75, .iconst 1, 1, []), (76, .isub, 1, []), (77, .invokevirtual 95, 3, [33]), (80, .iload 4, 2, []), (82, .ireturn, 1, [])]
def p_History_actTaking : zz_P := (39, ⟨"TurnQueues$History", "actTaking", "(II)I"⟩, prog_5_method_9_code, 5, (some .int), q_History_actTaking)
set_option maxRecDepth 100000 in
theorem k_History_actTaking : zz_okP p_History_actTaking := ⟨by decide +kernel, zz_mem_r [753, 419, 426, 1088, 419, 1332, 426, 1306, 426, 176, 737] rfl (by decide +kernel)⟩
set_option maxRecDepth 100000 in
theorem o_History_actTaking : zz_okC p_History_actTaking false 3 3 := zz_okV (zz_mem_r (ws := [Cond.code p_History_actTaking.y p_History_actTaking.bytes p_History_actTaking.maxL p_History_actTaking.ret, Cond.initialized p_History_actTaking.y.cls, Cond.instanceMethod p_History_actTaking.y, Cond.selects p_History_actTaking.y.cls p_History_actTaking.y p_History_actTaking.y]) [1331, 101, 1329, 1330] rfl (by decide +kernel)) rfl rfl (by decide +kernel) (by decide +kernel) rfl (by decide +kernel) rfl
def q_History_actAlongWay : List zz_C := [(0, .iload_n 2, 1, []), (1, .istore_n 3, 1, []), (2, .iconst 0, 1, []), (3, .istore 4, 2, []), (5, .iload 4, 2, []), (7, .iload_n 1, 1, []), (8, .if_icmp .ge 78, 3, [43]), (11, .aload_n 0, 1, []), (12, .iload 4, 2, []), (14, .invokevirtual 156, 3, [43]), (17, .istore 5, 2, []), (19, .aload_n 0, 1, []), (20, .getfield 12, 3, [300]), (23, .iload 5, 2, []), (25, .invokevirtual 91, 3, [25]), (28, .ifCond .eq 52, 3, [41]), (31, .aload_n 0, 1, []), (32, .getfield 12, 3, [300]), (35, .aload_n 0, 1, []), (36, .getfield 12, 3, [300]), (39, .getfield 109, 3, [205]), (42, .iload 5, 2, []), (44, .iaload, 1, []), (45, .iload_n 3, 1, []), (46, .aload_n 0, 1, []), (47, .getfield 12, 3, [300]), (50, .getfield 115, 3, [207]), (53, .iload 5, 2, []), (55, .iaload, 1, []), (56, .invokevirtual 144, 3, [20]), (59, .aload_n 0, 1, []), (60, .aload_n 0, 1, []), (61, .getfield 12, 3, [300]), (64, .getfield 148, 3, [204]), (67, .iconst 1, 1, []), (68, .isub, 1, []), (69, .invokevirtual 95, 3, [33]), (72, .aload_n 0, 1, []), (73, .getfield 12, 3, [300]), (76, .getfield 148, 3, [204]), (79, .istore_n 3, 1, []), (80, .iinc 4 1, 3, []), (83, .goto (-78), 3, [4]), (86, .iload_n 3, 1, []), (87, .ireturn, 1, [])]
def p_History_actAlongWay : zz_P := (40, ⟨"TurnQueues$History", "actAlongWay", "(II)I"⟩, prog_5_method_10_code, 6, (some .int), q_History_actAlongWay)
set_option maxRecDepth 100000 in
theorem k_History_actAlongWay : zz_okP p_History_actAlongWay := ⟨by decide +kernel, zz_mem_r [1046, 426, 733, 426, 426, 179, 426, 186, 1306, 426, 176, 737, 426, 176] rfl (by decide +kernel)⟩
set_option maxRecDepth 100000 in
theorem o_History_actAlongWay : zz_okC p_History_actAlongWay false 3 3 := zz_okV (zz_mem_r (ws := [Cond.code p_History_actAlongWay.y p_History_actAlongWay.bytes p_History_actAlongWay.maxL p_History_actAlongWay.ret, Cond.initialized p_History_actAlongWay.y.cls, Cond.instanceMethod p_History_actAlongWay.y, Cond.selects p_History_actAlongWay.y.cls p_History_actAlongWay.y p_History_actAlongWay.y]) [1305, 101, 1303, 1304] rfl (by decide +kernel)) rfl rfl (by decide +kernel) (by decide +kernel) rfl (by decide +kernel) rfl
def q_History_cutTo : List zz_C := [(0, .aload_n 0, 1, []), (1, .getfield 12, 3, [300]), (4, .iload_n 1, 1, []), (5, .invokevirtual 91, 3, [25]), (8, .ifCond .eq 24, 3, [16]), (11, .aload_n 0, 1, []), (12, .getfield 31, 3, [302]), (15, .aload_n 0, 1, []), (16, .getfield 52, 3, [307]), (19, .iload_n 1, 1, []), (20, .iaload, 1, []), (21, .putfield 76, 3, [100]), (24, .aload_n 0, 1, []), (25, .getfield 12, 3, [300]), (28, .iload_n 1, 1, []), (29, .putfield 148, 3, [204]), (32, .return_, 1, [])]
def p_History_cutTo : zz_P := (41, ⟨"TurnQueues$History", "cutTo", "(I)V"⟩, prog_5_method_11_code, 2, none, q_History_cutTo)
set_option maxRecDepth 100000 in
theorem k_History_cutTo : zz_okP p_History_cutTo := ⟨by decide +kernel, zz_mem_r [426, 733, 430, 436, 256, 426, 176] rfl (by decide +kernel)⟩
set_option maxRecDepth 100000 in
theorem o_History_cutTo : zz_okC p_History_cutTo false 3 2 := zz_okV (zz_mem_r (ws := [Cond.code p_History_cutTo.y p_History_cutTo.bytes p_History_cutTo.maxL p_History_cutTo.ret, Cond.initialized p_History_cutTo.y.cls, Cond.instanceMethod p_History_cutTo.y, Cond.selects p_History_cutTo.y.cls p_History_cutTo.y p_History_cutTo.y]) [1348, 101, 1346, 1347] rfl (by decide +kernel)) rfl rfl (by decide +kernel) (by decide +kernel) rfl (by decide +kernel) rfl
def q_History_findWay : List zz_C := [(0, .aload_n 0, 1, []), (1, .getfield 12, 3, [300]), (4, .iload_n 2, 1, []), (5, .invokevirtual 159, 3, [27]), (8, .aload_n 0, 1, []), (9, .getfield 12, 3, [300]), (12, .iload_n 1, 1, []), (13, .invokevirtual 159, 3, [27]), (16, .isub, 1, []), (17, .istore_n 3, 1, []), (18, .iload_n 2, 1, []), (19, .istore 4, 2, []), (21, .iload_n 3, 1, []), (22, .iconst 1, 1, []), (23, .isub, 1, []), (24, .istore 5, 2, []), (26, .iload 5, 2, []), (28, .ifCond .lt 38, 3, [35]), (31, .iload 5, 2, []), (33, .bipush 60, 2, []), (35, .if_icmp .ge 31, 3, [35]), (38, .aload_n 0, 1, []), (39, .getfield 55, 3, [308]), (42, .iload 5, 2, []), (44, .iload 4, 2, []), (46, .iconst 1, 1, []), (47, .isub, 1, []), (48, .iastore, 1, []), (49, .aload_n 0, 1, []), (50, .getfield 12, 3, [300]), (53, .iload 4, 2, []), (55, .invokevirtual 162, 3, [26]), (58, .istore 4, 2, []), (60, .iinc 5 (-1), 3, []), (63, .goto (-37), 3, [16]), (66, .iload 4, 2, []), (68, .iload_n 1, 1, []), (69, .if_icmp .ne 7, 3, [40]), (72, .iload_n 3, 1, []), (73, .goto 4, 3, [41]), (76, .iconst (-1), 1, []), (77, .ireturn, 1, [])]
def p_History_findWay : zz_P := (42, ⟨"TurnQueues$History", "findWay", "(II)I"⟩, prog_5_method_12_code, 6, (some .int), q_History_findWay)
set_option maxRecDepth 100000 in
theorem k_History_findWay : zz_okP p_History_findWay := ⟨by decide +kernel, zz_mem_r [426, 1032, 426, 1032, 437, 426, 1033] rfl (by decide +kernel)⟩
set_option maxRecDepth 100000 in
theorem o_History_findWay : zz_okC p_History_findWay false 3 3 := zz_okV (zz_mem_r (ws := [Cond.code p_History_findWay.y p_History_findWay.bytes p_History_findWay.maxL p_History_findWay.ret, Cond.initialized p_History_findWay.y.cls, Cond.instanceMethod p_History_findWay.y, Cond.selects p_History_findWay.y.cls p_History_findWay.y p_History_findWay.y]) [1031, 101, 1029, 1030] rfl (by decide +kernel)) rfl rfl (by decide +kernel) (by decide +kernel) rfl (by decide +kernel) rfl
def q_History_wayDeed : List zz_C := [(0, .iload_n 1, 1, []), (1, .ifCond .lt 18, 3, [10]), (4, .iload_n 1, 1, []), (5, .bipush 60, 2, []), (7, .if_icmp .ge 12, 3, [10]), (10, .aload_n 0, 1, []), (11, .getfield 55, 3, [308]), (14, .iload_n 1, 1, []), (15, .iaload, 1, []), (16, .goto 4, 3, [11]), (19, .iconst (-1), 1, []), (20, .ireturn, 1, [])]
def p_History_wayDeed : zz_P := (43, ⟨"TurnQueues$History", "wayDeed", "(I)I"⟩, prog_5_method_13_code, 2, (some .int), q_History_wayDeed)
set_option maxRecDepth 100000 in
theorem k_History_wayDeed : zz_okP p_History_wayDeed := ⟨by decide +kernel, zz_mem_r [437] rfl (by decide +kernel)⟩
set_option maxRecDepth 100000 in
theorem o_History_wayDeed : zz_okC p_History_wayDeed false 3 2 := zz_okV (zz_mem_r (ws := [Cond.code p_History_wayDeed.y p_History_wayDeed.bytes p_History_wayDeed.maxL p_History_wayDeed.ret, Cond.initialized p_History_wayDeed.y.cls, Cond.instanceMethod p_History_wayDeed.y, Cond.selects p_History_wayDeed.y.cls p_History_wayDeed.y p_History_wayDeed.y]) [1037, 101, 1035, 1036] rfl (by decide +kernel)) rfl rfl (by decide +kernel) (by decide +kernel) rfl (by decide +kernel) rfl
def q_History_stepsOnWay : List zz_C := [(0, .iconst 0, 1, []), (1, .istore_n 2, 1, []), (2, .iconst 0, 1, []), (3, .istore_n 3, 1, []), (4, .iload_n 3, 1, []), (5, .iload_n 1, 1, []), (6, .if_icmp .ge 21, 3, [17]), (9, .iload_n 2, 1, []), (10, .aload_n 0, 1, []), (11, .aload_n 0, 1, []), (12, .iload_n 3, 1, []), (13, .invokevirtual 156, 3, [43]), (16, .invokevirtual 165, 3, [46]), (19, .iadd, 1, []), (20, .istore_n 2, 1, []), (21, .iinc 3 1, 3, []), (24, .goto (-20), 3, [4]), (27, .iload_n 2, 1, []), (28, .ireturn, 1, [])]
def p_History_stepsOnWay : zz_P := (44, ⟨"TurnQueues$History", "stepsOnWay", "(I)I"⟩, prog_5_method_14_code, 4, (some .int), q_History_stepsOnWay)
set_option maxRecDepth 100000 in
theorem k_History_stepsOnWay : zz_okP p_History_stepsOnWay := ⟨by decide +kernel, zz_mem_r [1046, 1047] rfl (by decide +kernel)⟩
set_option maxRecDepth 100000 in
theorem o_History_stepsOnWay : zz_okC p_History_stepsOnWay false 3 2 := zz_okV (zz_mem_r (ws := [Cond.code p_History_stepsOnWay.y p_History_stepsOnWay.bytes p_History_stepsOnWay.maxL p_History_stepsOnWay.ret, Cond.initialized p_History_stepsOnWay.y.cls, Cond.instanceMethod p_History_stepsOnWay.y, Cond.selects p_History_stepsOnWay.y.cls p_History_stepsOnWay.y p_History_stepsOnWay.y]) [1045, 101, 1043, 1044] rfl (by decide +kernel)) rfl rfl (by decide +kernel) (by decide +kernel) rfl (by decide +kernel) rfl
def q_History_mostOnWay : List zz_C := [(0, .iconst 0, 1, []), (1, .istore_n 2, 1, []), (2, .iconst 0, 1, []), (3, .istore_n 3, 1, []), (4, .iload_n 3, 1, []), (5, .iload_n 1, 1, []), (6, .if_icmp .ge 23, 3, [17]), (9, .iload_n 2, 1, []), (10, .aload_n 0, 1, []), (11, .aload_n 0, 1, []), (12, .iload_n 3, 1, []), (13, .invokevirtual 156, 3, [43]), (16, .invokevirtual 165, 3, [46]), (19, .invokestatic 168, 3, [299]), (22, .istore_n 2, 1, []), (23, .iinc 3 1, 3, []), (26, .goto (-22), 3, [4]), (29, .iload_n 2, 1, []), (30, .ireturn, 1, [])]
def p_History_mostOnWay : zz_P := (45, ⟨"TurnQueues$History", "mostOnWay", "(I)I"⟩, prog_5_method_15_code, 4, (some .int), q_History_mostOnWay)
set_option maxRecDepth 100000 in
theorem k_History_mostOnWay : zz_okP p_History_mostOnWay := ⟨by decide +kernel, zz_mem_r [1046, 1047, 1055] rfl (by decide +kernel)⟩
set_option maxRecDepth 100000 in
theorem o_History_mostOnWay : zz_okC p_History_mostOnWay false 3 2 := zz_okV (zz_mem_r (ws := [Cond.code p_History_mostOnWay.y p_History_mostOnWay.bytes p_History_mostOnWay.maxL p_History_mostOnWay.ret, Cond.initialized p_History_mostOnWay.y.cls, Cond.instanceMethod p_History_mostOnWay.y, Cond.selects p_History_mostOnWay.y.cls p_History_mostOnWay.y p_History_mostOnWay.y]) [1054, 101, 1052, 1053] rfl (by decide +kernel)) rfl rfl (by decide +kernel) (by decide +kernel) rfl (by decide +kernel) rfl
def q_History_stepsOf : List zz_C := [(0, .aload_n 0, 1, []), (1, .getfield 12, 3, [300]), (4, .iload_n 1, 1, []), (5, .invokevirtual 91, 3, [25]), (8, .ifCond .eq 12, 3, [10]), (11, .aload_n 0, 1, []), (12, .getfield 44, 3, [305]), (15, .iload_n 1, 1, []), (16, .iaload, 1, []), (17, .goto 4, 3, [11]), (20, .iconst 0, 1, []), (21, .ireturn, 1, [])]
def p_History_stepsOf : zz_P := (46, ⟨"TurnQueues$History", "stepsOf", "(I)I"⟩, prog_5_method_16_code, 2, (some .int), q_History_stepsOf)
set_option maxRecDepth 100000 in
theorem k_History_stepsOf : zz_okP p_History_stepsOf := ⟨by decide +kernel, zz_mem_r [426, 733, 434] rfl (by decide +kernel)⟩
set_option maxRecDepth 100000 in
theorem o_History_stepsOf : zz_okC p_History_stepsOf false 3 2 := zz_okV (zz_mem_r (ws := [Cond.code p_History_stepsOf.y p_History_stepsOf.bytes p_History_stepsOf.maxL p_History_stepsOf.ret, Cond.initialized p_History_stepsOf.y.cls, Cond.instanceMethod p_History_stepsOf.y, Cond.selects p_History_stepsOf.y.cls p_History_stepsOf.y p_History_stepsOf.y]) [1050, 101, 1048, 1049] rfl (by decide +kernel)) rfl rfl (by decide +kernel) (by decide +kernel) rfl (by decide +kernel) rfl
def q_History_stepsOfAll : List zz_C := [(0, .iconst 0, 1, []), (1, .istore_n 1, 1, []), (2, .iconst 0, 1, []), (3, .istore_n 2, 1, []), (4, .aload_n 0, 1, []), (5, .getfield 12, 3, [300]), (8, .iload_n 2, 1, []), (9, .invokevirtual 91, 3, [25]), (12, .ifCond .eq 18, 3, [18]), (15, .iload_n 1, 1, []), (16, .aload_n 0, 1, []), (17, .getfield 44, 3, [305]), (20, .iload_n 2, 1, []), (21, .iaload, 1, []), (22, .iadd, 1, []), (23, .istore_n 1, 1, []), (24, .iinc 2 1, 3, []), (27, .goto (-23), 3, [4]), (30, .iload_n 1, 1, []), (31, .ireturn, 1, [])]
def p_History_stepsOfAll : zz_P := (47, ⟨"TurnQueues$History", "stepsOfAll", "()I"⟩, prog_5_method_17_code, 3, (some .int), q_History_stepsOfAll)
set_option maxRecDepth 100000 in
theorem k_History_stepsOfAll : zz_okP p_History_stepsOfAll := ⟨by decide +kernel, zz_mem_r [426, 733, 434] rfl (by decide +kernel)⟩
set_option maxRecDepth 100000 in
theorem o_History_stepsOfAll : zz_okC p_History_stepsOfAll false 3 1 := zz_okV (zz_mem_r (ws := [Cond.code p_History_stepsOfAll.y p_History_stepsOfAll.bytes p_History_stepsOfAll.maxL p_History_stepsOfAll.ret, Cond.initialized p_History_stepsOfAll.y.cls, Cond.instanceMethod p_History_stepsOfAll.y, Cond.selects p_History_stepsOfAll.y.cls p_History_stepsOfAll.y p_History_stepsOfAll.y]) [1125, 101, 1123, 1124] rfl (by decide +kernel)) rfl rfl (by decide +kernel) (by decide +kernel) rfl (by decide +kernel) rfl
def q_History_dearestDeed : List zz_C := [(0, .iconst (-1), 1, []), (1, .istore_n 1, 1, []), (2, .iconst 0, 1, []), (3, .istore_n 2, 1, []), (4, .iconst 0, 1, []), (5, .istore_n 3, 1, []), (6, .aload_n 0, 1, []), (7, .getfield 12, 3, [300]), (10, .iload_n 3, 1, []), (11, .invokevirtual 91, 3, [25]), (14, .ifCond .eq 28, 3, [26]), (17, .aload_n 0, 1, []), (18, .getfield 44, 3, [305]), (21, .iload_n 3, 1, []), (22, .iaload, 1, []), (23, .iload_n 2, 1, []), (24, .if_icmp .le 12, 3, [24]), (27, .aload_n 0, 1, []), (28, .getfield 44, 3, [305]), (31, .iload_n 3, 1, []), (32, .iaload, 1, []), (33, .istore_n 2, 1, []), (34, .iload_n 3, 1, []), (35, .istore_n 1, 1, []), (36, .iinc 3 1, 3, []), (39, .goto (-33), 3, [6]), (42, .iload_n 1, 1, []), (43, .ireturn, 1, [])]
def p_History_dearestDeed : zz_P := (48, ⟨"TurnQueues$History", "dearestDeed", "()I"⟩, prog_5_method_18_code, 4, (some .int), q_History_dearestDeed)
set_option maxRecDepth 100000 in
theorem k_History_dearestDeed : zz_okP p_History_dearestDeed := ⟨by decide +kernel, zz_mem_r [426, 733, 434, 434] rfl (by decide +kernel)⟩
set_option maxRecDepth 100000 in
theorem o_History_dearestDeed : zz_okC p_History_dearestDeed false 3 1 := zz_okV (zz_mem_r (ws := [Cond.code p_History_dearestDeed.y p_History_dearestDeed.bytes p_History_dearestDeed.maxL p_History_dearestDeed.ret, Cond.initialized p_History_dearestDeed.y.cls, Cond.instanceMethod p_History_dearestDeed.y, Cond.selects p_History_dearestDeed.y.cls p_History_dearestDeed.y p_History_dearestDeed.y]) [1133, 101, 1131, 1132] rfl (by decide +kernel)) rfl rfl (by decide +kernel) (by decide +kernel) rfl (by decide +kernel) rfl
def q_History_overdueDeeds : List zz_C := [(0, .iconst 0, 1, []), (1, .istore_n 1, 1, []), (2, .iconst 0, 1, []), (3, .istore_n 2, 1, []), (4, .aload_n 0, 1, []), (5, .getfield 12, 3, [300]), (8, .iload_n 2, 1, []), (9, .invokevirtual 91, 3, [25]), (12, .ifCond .eq 26, 3, [22]), (15, .iload_n 1, 1, []), (16, .aload_n 0, 1, []), (17, .getfield 48, 3, [306]), (20, .iload_n 2, 1, []), (21, .baload, 1, []), (22, .ifCond .eq 7, 3, [17]), (25, .iconst 1, 1, []), (26, .goto 4, 3, [18]), (29, .iconst 0, 1, []), (30, .iadd, 1, []), (31, .istore_n 1, 1, []), (32, .iinc 2 1, 3, []), (35, .goto (-31), 3, [4]), (38, .iload_n 1, 1, []), (39, .ireturn, 1, [])]
def p_History_overdueDeeds : zz_P := (49, ⟨"TurnQueues$History", "overdueDeeds", "()I"⟩, prog_5_method_19_code, 3, (some .int), q_History_overdueDeeds)
set_option maxRecDepth 100000 in
theorem k_History_overdueDeeds : zz_okP p_History_overdueDeeds := ⟨by decide +kernel, zz_mem_r [426, 733, 435] rfl (by decide +kernel)⟩
set_option maxRecDepth 100000 in
theorem o_History_overdueDeeds : zz_okC p_History_overdueDeeds false 3 1 := zz_okV (zz_mem_r (ws := [Cond.code p_History_overdueDeeds.y p_History_overdueDeeds.bytes p_History_overdueDeeds.maxL p_History_overdueDeeds.ret, Cond.initialized p_History_overdueDeeds.y.cls, Cond.instanceMethod p_History_overdueDeeds.y, Cond.selects p_History_overdueDeeds.y.cls p_History_overdueDeeds.y p_History_overdueDeeds.y]) [1141, 101, 1139, 1140] rfl (by decide +kernel)) rfl rfl (by decide +kernel) (by decide +kernel) rfl (by decide +kernel) rfl
def q_History_heldByAll : List zz_C := [(0, .aload_n 0, 1, []), (1, .lconst 1, 1, []), (2, .aload_n 0, 1, []), (3, .getfield 12, 3, [300]), (6, .invokevirtual 140, 3, [21]), (9, .lshl, 1, []), (10, .lconst 1, 1, []), (11, .lsub, 1, []), (12, .invokevirtual 173, 3, [51]), (15, .ireturn, 1, [])]
def p_History_heldByAll : zz_P := (50, ⟨"TurnQueues$History", "heldByAll", "()I"⟩, prog_5_method_20_code, 1, (some .int), q_History_heldByAll)
set_option maxRecDepth 100000 in
theorem k_History_heldByAll : zz_okP p_History_heldByAll := ⟨by decide +kernel, zz_mem_r [426, 1088, 1089] rfl (by decide +kernel)⟩
set_option maxRecDepth 100000 in
theorem o_History_heldByAll : zz_okC p_History_heldByAll false 3 1 := zz_okV (zz_mem_r (ws := [Cond.code p_History_heldByAll.y p_History_heldByAll.bytes p_History_heldByAll.maxL p_History_heldByAll.ret, Cond.initialized p_History_heldByAll.y.cls, Cond.instanceMethod p_History_heldByAll.y, Cond.selects p_History_heldByAll.y.cls p_History_heldByAll.y p_History_heldByAll.y]) [1087, 101, 1085, 1086] rfl (by decide +kernel)) rfl rfl (by decide +kernel) (by decide +kernel) rfl (by decide +kernel) rfl
def q_History_heldBySet : List zz_C := [(0, .iconst 0, 1, []), (1, .istore_n 3, 1, []), (2, .aload_n 0, 1, []), (3, .getfield 31, 3, [302]), (6, .invokevirtual 177, 3, [14]), (9, .iconst 0, 1, []), (10, .istore 4, 2, []), (12, .aload_n 0, 1, []), (13, .getfield 12, 3, [300]), (16, .iload 4, 2, []), (18, .invokevirtual 133, 3, [24]), (21, .ifCond .eq 38, 3, [33]), (24, .lload_n 1, 1, []), (25, .iload 4, 2, []), (27, .lushr, 1, []), (28, .lconst 1, 1, []), (29, .land, 1, []), (30, .lconst 0, 1, []), (31, .lcmp, 1, []), (32, .ifCond .eq 21, 3, [31]), (35, .iload_n 3, 1, []), (36, .aload_n 0, 1, []), (37, .getfield 31, 3, [302]), (40, .aload_n 0, 1, []), (41, .getfield 34, 3, [303]), (44, .iload 4, 2, []), (46, .aaload, 1, []), (47, .iconst (-1), 1, []), (48, .invokevirtual 180, 3, [15]), (51, .iadd, 1, []), (52, .istore_n 3, 1, []), (53, .iinc 4 1, 3, []), (56, .goto (-44), 3, [7]), (59, .iload_n 3, 1, []), (60, .ireturn, 1, [])]
def p_History_heldBySet : zz_P := (51, ⟨"TurnQueues$History", "heldBySet", "(J)I"⟩, prog_5_method_21_code, 5, (some .int), q_History_heldBySet)
set_option maxRecDepth 100000 in
theorem k_History_heldBySet : zz_okP p_History_heldBySet := ⟨by decide +kernel, zz_mem_r [430, 1093, 426, 745, 430, 432, 1094] rfl (by decide +kernel)⟩
set_option maxRecDepth 100000 in
theorem o_History_heldBySet : zz_okC p_History_heldBySet false 3 2 := zz_okV (zz_mem_r (ws := [Cond.code p_History_heldBySet.y p_History_heldBySet.bytes p_History_heldBySet.maxL p_History_heldBySet.ret, Cond.initialized p_History_heldBySet.y.cls, Cond.instanceMethod p_History_heldBySet.y, Cond.selects p_History_heldBySet.y.cls p_History_heldBySet.y p_History_heldBySet.y]) [1092, 101, 1090, 1091] rfl (by decide +kernel)) rfl rfl (by decide +kernel) (by decide +kernel) rfl (by decide +kernel) rfl
def q_History_leastEqual : List zz_C := [(0, .iconst 0, 1, []), (1, .istore_n 2, 1, []), (2, .iload_n 2, 1, []), (3, .iload_n 1, 1, []), (4, .if_icmp .ge 40, 3, [24]), (7, .aload_n 0, 1, []), (8, .getfield 12, 3, [300]), (11, .iload_n 1, 1, []), (12, .invokevirtual 133, 3, [24]), (15, .ifCond .eq 29, 3, [24]), (18, .aload_n 0, 1, []), (19, .getfield 40, 3, [304]), (22, .iload_n 2, 1, []), (23, .aaload, 1, []), (24, .aload_n 0, 1, []), (25, .getfield 40, 3, [304]), (28, .iload_n 1, 1, []), (29, .aaload, 1, []), (30, .invokevirtual 184, 3, [78]), (33, .ifCond .eq 5, 3, [22]), (36, .iload_n 2, 1, []), (37, .ireturn, 1, []), (38, .iinc 2 1, 3, []), (41, .goto (-39), 3, [2]), (44, .iload_n 1, 1, []), (45, .ireturn, 1, [])]
def p_History_leastEqual : zz_P := (52, ⟨"TurnQueues$History", "leastEqual", "(I)I"⟩, prog_5_method_22_code, 3, (some .int), q_History_leastEqual)
set_option maxRecDepth 100000 in
theorem k_History_leastEqual : zz_okP p_History_leastEqual := ⟨by decide +kernel, zz_mem_r [426, 745, 433, 433, 911] rfl (by decide +kernel)⟩
set_option maxRecDepth 100000 in
theorem o_History_leastEqual : zz_okC p_History_leastEqual false 3 2 := zz_okV (zz_mem_r (ws := [Cond.code p_History_leastEqual.y p_History_leastEqual.bytes p_History_leastEqual.maxL p_History_leastEqual.ret, Cond.initialized p_History_leastEqual.y.cls, Cond.instanceMethod p_History_leastEqual.y, Cond.selects p_History_leastEqual.y.cls p_History_leastEqual.y p_History_leastEqual.y]) [910, 101, 908, 909] rfl (by decide +kernel)) rfl rfl (by decide +kernel) (by decide +kernel) rfl (by decide +kernel) rfl
def q_History_leastToldAlike : List zz_C := [(0, .aload_n 0, 1, []), (1, .iload_n 1, 1, []), (2, .aload_n 0, 1, []), (3, .getfield 63, 3, [309]), (6, .invokevirtual 188, 3, [54]), (9, .iconst 0, 1, []), (10, .istore_n 2, 1, []), (11, .iload_n 2, 1, []), (12, .iload_n 1, 1, []), (13, .if_icmp .ge 34, 3, [25]), (16, .aload_n 0, 1, []), (17, .iload_n 2, 1, []), (18, .aload_n 0, 1, []), (19, .getfield 67, 3, [310]), (22, .invokevirtual 188, 3, [54]), (25, .aload_n 0, 1, []), (26, .getfield 63, 3, [309]), (29, .aload_n 0, 1, []), (30, .getfield 67, 3, [310]), (33, .invokevirtual 192, 3, [6]), (36, .ifCond .eq 5, 3, [23]), (39, .iload_n 2, 1, []), (40, .ireturn, 1, []), (41, .iinc 2 1, 3, []), (44, .goto (-33), 3, [7]), (47, .iload_n 1, 1, []), (48, .ireturn, 1, [])]
def p_History_leastToldAlike : zz_P := (53, ⟨"TurnQueues$History", "leastToldAlike", "(I)I"⟩, prog_5_method_23_code, 3, (some .int), q_History_leastToldAlike)
set_option maxRecDepth 100000 in
theorem k_History_leastToldAlike : zz_okP p_History_leastToldAlike := ⟨by decide +kernel, zz_mem_r [438, 979, 439, 979, 438, 439, 1019] rfl (by decide +kernel)⟩
set_option maxRecDepth 100000 in
theorem o_History_leastToldAlike : zz_okC p_History_leastToldAlike false 3 2 := zz_okV (zz_mem_r (ws := [Cond.code p_History_leastToldAlike.y p_History_leastToldAlike.bytes p_History_leastToldAlike.maxL p_History_leastToldAlike.ret, Cond.initialized p_History_leastToldAlike.y.cls, Cond.instanceMethod p_History_leastToldAlike.y, Cond.selects p_History_leastToldAlike.y.cls p_History_leastToldAlike.y p_History_leastToldAlike.y]) [978, 101, 976, 977] rfl (by decide +kernel)) rfl rfl (by decide +kernel) (by decide +kernel) rfl (by decide +kernel) rfl
def q_History_write : List zz_C := [(0, .aload_n 2, 1, []), (1, .iconst 0, 1, []), (2, .putfield 195, 3, [0]), (5, .aload_n 0, 1, []), (6, .iload_n 1, 1, []), (7, .invokevirtual 101, 3, [34]), (10, .astore_n 3, 1, []), (11, .aload_n 3, 1, []), (12, .ifnonnull 4, 3, [10]), (15, .return_, 1, []), (16, .aload_n 0, 1, []), (17, .aload_n 2, 1, []), (18, .ldc 198, 2, [0, 7]), (20, .aload_n 3, 1, []), (21, .getfield 200, 3, [900]), (24, .invokevirtual 204, 3, [57]), (27, .aload_n 0, 1, []), (28, .aload_n 2, 1, []), (29, .ldc 208, 2, [0, 8]), (31, .aload_n 3, 1, []), (32, .getfield 210, 3, [901]), (35, .invokevirtual 204, 3, [57]), (38, .aload_n 0, 1, []), (39, .getfield 12, 3, [300]), (42, .getfield 82, 3, [201]), (45, .iconst 1, 1, []), (46, .if_icmp .ne 12, 3, [32]), (49, .aload_n 0, 1, []), (50, .aload_n 2, 1, []), (51, .aload_n 3, 1, []), (52, .invokevirtual 213, 3, [55]), (55, .goto 36, 3, [49]), (58, .aload_n 0, 1, []), (59, .getfield 12, 3, [300]), (62, .getfield 82, 3, [201]), (65, .iconst 2, 1, []), (66, .if_icmp .ne 25, 3, [49]), (69, .aload_n 0, 1, []), (70, .aload_n 2, 1, []), (71, .ldc 217, 2, [0, 16]), (73, .aload_n 3, 1, []), (74, .getfield 219, 3, [910]), (77, .invokevirtual 222, 3, [56]), (80, .aload_n 0, 1, []), (81, .aload_n 2, 1, []), (82, .ldc 226, 2, [0, 17]), (84, .aload_n 3, 1, []), (85, .getfield 228, 3, [911]), (88, .invokevirtual 222, 3, [56]), (91, .return_, 1, [])]
def p_History_write : zz_P := (54, ⟨"TurnQueues$History", "write", "(ILTurnQueues$Bytes;)V"⟩, prog_5_method_24_code, 4, none, q_History_write)
set_option maxRecDepth 100000 in
theorem k_History_write : zz_okP p_History_write := ⟨by decide +kernel, zz_mem_r [135, 741, 342, 984, 346, 984, 426, 161, 1002, 426, 161, 381, 1007, 385, 1007] rfl (by decide +kernel)⟩
set_option maxRecDepth 100000 in
theorem o_History_write : zz_okC p_History_write false 3 3 := zz_okV (zz_mem_r (ws := [Cond.code p_History_write.y p_History_write.bytes p_History_write.maxL p_History_write.ret, Cond.initialized p_History_write.y.cls, Cond.instanceMethod p_History_write.y, Cond.selects p_History_write.y.cls p_History_write.y p_History_write.y]) [982, 101, 980, 981] rfl (by decide +kernel)) rfl rfl (by decide +kernel) (by decide +kernel) rfl (by decide +kernel) rfl
def q_History_writeTurn : List zz_C := [(0, .aload_n 2, 1, []), (1, .getfield 231, 3, [908]), (4, .iconst 1, 1, []), (5, .if_icmp .ne 61, 3, [35]), (8, .aload_n 0, 1, []), (9, .aload_n 1, 1, []), (10, .ldc 234, 2, [0, 9]), (12, .aload_n 2, 1, []), (13, .getfield 236, 3, [909]), (16, .invokevirtual 222, 3, [56]), (19, .aload_n 0, 1, []), (20, .aload_n 1, 1, []), (21, .ldc 239, 2, [0, 10]), (23, .aload_n 2, 1, []), (24, .getfield 241, 3, [902]), (27, .invokevirtual 204, 3, [57]), (30, .aload_n 0, 1, []), (31, .aload_n 1, 1, []), (32, .ldc 244, 2, [0, 11]), (34, .aload_n 2, 1, []), (35, .getfield 246, 3, [903]), (38, .invokevirtual 204, 3, [57]), (41, .aload_n 0, 1, []), (42, .aload_n 1, 1, []), (43, .ldc 249, 2, [0, 12]), (45, .aload_n 2, 1, []), (46, .getfield 251, 3, [904]), (49, .invokevirtual 204, 3, [57]), (52, .aload_n 0, 1, []), (53, .aload_n 1, 1, []), (54, .ldc 254, 2, [0, 13]), (56, .aload_n 2, 1, []), (57, .getfield 256, 3, [905]), (60, .invokevirtual 204, 3, [57]), (63, .goto 55, 3, [61]), (66, .aload_n 2, 1, []), (67, .getfield 231, 3, [908]), (70, .iconst 2, 1, []), (71, .if_icmp .ne 40, 3, [58]), (74, .aload_n 0, 1, []), (75, .aload_n 1, 1, []), (76, .ldc_w 259, 3, [0, 14]), (79, .aload_n 2, 1, []), (80, .getfield 236, 3, [909]), (83, .invokevirtual 222, 3, [56]), (86, .aload_n 0, 1, []), (87, .aload_n 1, 1, []), (88, .ldc 244, 2, [0, 11]), (90, .aload_n 2, 1, []), (91, .getfield 246, 3, [903]), (94, .invokevirtual 204, 3, [57]), (97, .aload_n 0, 1, []), (98, .aload_n 1, 1, []), (99, .ldc 254, 2, [0, 13]), (101, .aload_n 2, 1, []), (102, .getfield 256, 3, [905]), (105, .invokevirtual 204, 3, [57]), (108, .goto 10, 3, [61]), (111, .aload_n 1, 1, []), (112, .ldc_w 261, 3, [0, 15]), (115, .invokevirtual 263, 3, [3]), (118, .return_, 1, [])]
def p_History_writeTurn : zz_P := (55, ⟨"TurnQueues$History", "writeTurn", "(LTurnQueues$Bytes;LTurnQueues$State;)V"⟩, prog_5_method_25_code, 3, none, q_History_writeTurn)
set_option maxRecDepth 100000 in
theorem k_History_writeTurn : zz_okP p_History_writeTurn := ⟨by decide +kernel, zz_mem_r [373, 377, 1007, 350, 984, 354, 984, 358, 984, 362, 984, 373, 377, 1007, 354, 984, 362, 984, 988] rfl (by decide +kernel)⟩
set_option maxRecDepth 100000 in
theorem o_History_writeTurn : zz_okC p_History_writeTurn false 3 3 := zz_okV (zz_mem_r (ws := [Cond.code p_History_writeTurn.y p_History_writeTurn.bytes p_History_writeTurn.maxL p_History_writeTurn.ret, Cond.initialized p_History_writeTurn.y.cls, Cond.instanceMethod p_History_writeTurn.y, Cond.selects p_History_writeTurn.y.cls p_History_writeTurn.y p_History_writeTurn.y]) [1005, 101, 1004, 27] rfl (by decide +kernel)) rfl rfl (by decide +kernel) (by decide +kernel) rfl (by decide +kernel) rfl
def q_History_writeCount : List zz_C := [(0, .aload_n 1, 1, []), (1, .aload_n 2, 1, []), (2, .invokevirtual 263, 3, [3]), (5, .aload_n 1, 1, []), (6, .iload_n 3, 1, []), (7, .invokevirtual 267, 3, [4]), (10, .return_, 1, [])]
def p_History_writeCount : zz_P := (56, ⟨"TurnQueues$History", "writeCount", "(LTurnQueues$Bytes;Ljava/lang/String;I)V"⟩, prog_5_method_26_code, 4, none, q_History_writeCount)
set_option maxRecDepth 100000 in
theorem k_History_writeCount : zz_okP p_History_writeCount := ⟨by decide +kernel, zz_mem_r [988, 996] rfl (by decide +kernel)⟩
set_option maxRecDepth 100000 in
theorem o_History_writeCount : zz_okC p_History_writeCount false 3 4 := zz_okV (zz_mem_r (ws := [Cond.code p_History_writeCount.y p_History_writeCount.bytes p_History_writeCount.maxL p_History_writeCount.ret, Cond.initialized p_History_writeCount.y.cls, Cond.instanceMethod p_History_writeCount.y, Cond.selects p_History_writeCount.y.cls p_History_writeCount.y p_History_writeCount.y]) [1010, 101, 1009, 28] rfl (by decide +kernel)) rfl rfl (by decide +kernel) (by decide +kernel) rfl (by decide +kernel) rfl
def q_History_writeRow : List zz_C := [(0, .aload_n 1, 1, []), (1, .aload_n 2, 1, []), (2, .invokevirtual 263, 3, [3]), (5, .aload_n 3, 1, []), (6, .getfield 270, 3, [700]), (9, .istore 4, 2, []), (11, .iconst 0, 1, []), (12, .istore 5, 2, []), (14, .iload 5, 2, []), (16, .aload_n 3, 1, []), (17, .getfield 275, 3, [701]), (20, .if_icmp .ge 39, 3, [28]), (23, .aload_n 1, 1, []), (24, .bipush 32, 2, []), (26, .invokevirtual 276, 3, [1]), (29, .aload_n 1, 1, []), (30, .aload_n 0, 1, []), (31, .getfield 31, 3, [302]), (34, .iload 4, 2, []), (36, .invokevirtual 278, 3, [8]), (39, .invokevirtual 267, 3, [4]), (42, .aload_n 0, 1, []), (43, .getfield 31, 3, [302]), (46, .iload 4, 2, []), (48, .invokevirtual 281, 3, [10]), (51, .istore 4, 2, []), (53, .iinc 5 1, 3, []), (56, .goto (-42), 3, [8]), (59, .return_, 1, [])]
def p_History_writeRow : zz_P := (57, ⟨"TurnQueues$History", "writeRow", "(LTurnQueues$Bytes;Ljava/lang/String;LTurnQueues$Row;)V"⟩, prog_5_method_27_code, 6, none, q_History_writeRow)
set_option maxRecDepth 100000 in
theorem k_History_writeRow : zz_okP p_History_writeRow := ⟨by decide +kernel, zz_mem_r [988, 326, 331, 994, 430, 995, 996, 430, 1000] rfl (by decide +kernel)⟩
set_option maxRecDepth 100000 in
theorem o_History_writeRow : zz_okC p_History_writeRow false 3 4 := zz_okV (zz_mem_r (ws := [Cond.code p_History_writeRow.y p_History_writeRow.bytes p_History_writeRow.maxL p_History_writeRow.ret, Cond.initialized p_History_writeRow.y.cls, Cond.instanceMethod p_History_writeRow.y, Cond.selects p_History_writeRow.y.cls p_History_writeRow.y p_History_writeRow.y]) [987, 101, 986, 26] rfl (by decide +kernel)) rfl rfl (by decide +kernel) (by decide +kernel) rfl (by decide +kernel) rfl
end
section
/-! the code of the methods, printed by program -/
def q_Mill_obey : List zz_C := [(0, .aload_n 0, 1, []), (1, .iload_n 1, 1, []), (2, .putfield 30, 3, [404]), (5, .aload_n 0, 1, []), (6, .iload_n 2, 1, []), (7, .putfield 34, 3, [405]), (10, .return_, 1, [])]
def p_Mill_obey : zz_P := (59, ⟨"TurnQueues$Mill", "obey", "(II)V"⟩, prog_6_method_2_code, 3, none, q_Mill_obey)
set_option maxRecDepth 100000 in
theorem k_Mill_obey : zz_okP p_Mill_obey := ⟨by decide +kernel, zz_mem_r [285, 286] rfl (by decide +kernel)⟩
set_option maxRecDepth 100000 in
theorem o_Mill_obey : zz_okC p_Mill_obey false 4 3 := zz_okV (zz_mem_r (ws := [Cond.code p_Mill_obey.y p_Mill_obey.bytes p_Mill_obey.maxL p_Mill_obey.ret, Cond.initialized p_Mill_obey.y.cls, Cond.instanceMethod p_Mill_obey.y, Cond.selects p_Mill_obey.y.cls p_Mill_obey.y p_Mill_obey.y]) [732, 102, 730, 731] rfl (by decide +kernel)) rfl rfl (by decide +kernel) (by decide +kernel) rfl (by decide +kernel) rfl
def q_Mill_perform : List zz_C := [(0, .aload_n 0, 1, []), (1, .iload 4, 2, []), (3, .putfield 37, 3, [406]), (6, .aload_n 0, 1, []), (7, .iconst 1, 1, []), (8, .putfield 40, 3, [407]), (11, .aload_n 0, 1, []), (12, .iconst 0, 1, []), (13, .putfield 43, 3, [401]), (16, .aload_n 0, 1, []), (17, .iconst 0, 1, []), (18, .putfield 47, 3, [402]), (21, .aload_n 0, 1, []), (22, .aload_n 1, 1, []), (23, .iload_n 2, 1, []), (24, .iload_n 3, 1, []), (25, .invokevirtual 50, 3, [61]), (28, .aload_n 0, 1, []), (29, .getfield 30, 3, [404]), (32, .ifCond .ne 11, 3, [24]), (35, .aload_n 0, 1, []), (36, .aload_n 1, 1, []), (37, .invokevirtual 54, 3, [63]), (40, .goto 36, 3, [41]), (43, .aload_n 0, 1, []), (44, .getfield 30, 3, [404]), (47, .iconst 1, 1, []), (48, .if_icmp .ne 11, 3, [32]), (51, .aload_n 0, 1, []), (52, .aload_n 1, 1, []), (53, .invokevirtual 58, 3, [65]), (56, .goto 20, 3, [41]), (59, .aload_n 0, 1, []), (60, .aload_n 1, 1, []), (61, .iload_n 2, 1, []), (62, .invokestatic 61, 3, [178, 1]), (65, .ifCond .eq 7, 3, [39]), (68, .iconst 1, 1, []), (69, .goto 4, 3, [40]), (72, .iconst 2, 1, []), (73, .invokevirtual 65, 3, [68]), (76, .aload_n 0, 1, []), (77, .getfield 40, 3, [407]), (80, .ireturn, 1, [])]
def p_Mill_perform : zz_P := (60, ⟨"TurnQueues$Mill", "perform", "(LTurnQueues$State;III)I"⟩, prog_6_method_3_code, 5, (some .int), q_Mill_perform)
set_option maxRecDepth 100000 in
theorem k_Mill_perform : zz_okP p_Mill_perform := ⟨by decide +kernel, zz_mem_r [287, 288, 280, 282, 790, 285, 807, 285, 819, 841, 288] rfl (by decide +kernel)⟩
set_option maxRecDepth 100000 in
theorem o_Mill_perform : zz_okC p_Mill_perform false 4 5 := zz_okV (zz_mem_r (ws := [Cond.code p_Mill_perform.y p_Mill_perform.bytes p_Mill_perform.maxL p_Mill_perform.ret, Cond.initialized p_Mill_perform.y.cls, Cond.instanceMethod p_Mill_perform.y, Cond.selects p_Mill_perform.y.cls p_Mill_perform.y p_Mill_perform.y]) [789, 102, 787, 788] rfl (by decide +kernel)) rfl rfl (by decide +kernel) (by decide +kernel) rfl (by decide +kernel) rfl
def q_Mill_change : List zz_C := [(0, .aload_n 1, 1, []), (1, .dup, 1, []), (2, .getfield 69, 3, [906]), (5, .iload_n 2, 1, []), (6, .invokestatic 61, 3, [178, 1]), (9, .ifCond .eq 7, 3, [8]), (12, .iconst 1, 1, []), (13, .goto 4, 3, [9]), (16, .iconst (-1), 1, []), (17, .iadd, 1, []), (18, .putfield 69, 3, [906]), (21, .iload_n 2, 1, []), (22, .tableswitch 108 0 2 #[26, 64, 45], 26, [51, 13, 31, 22]), (48, .aload_n 0, 1, []), (49, .getfield 14, 3, [400]), (52, .aload_n 1, 1, []), (53, .getfield 74, 3, [901]), (56, .iload_n 3, 1, []), (57, .aload_n 0, 1, []), (58, .getfield 37, 3, [406]), (61, .invokevirtual 78, 3, [11]), (64, .goto 94, 3, [63]), (67, .aload_n 0, 1, []), (68, .getfield 14, 3, [400]), (71, .aload_n 1, 1, []), (72, .getfield 82, 3, [900]), (75, .iload_n 3, 1, []), (76, .aload_n 0, 1, []), (77, .getfield 37, 3, [406]), (80, .invokevirtual 78, 3, [11]), (83, .goto 75, 3, [63]), (86, .aload_n 0, 1, []), (87, .getfield 30, 3, [404]), (90, .iconst 1, 1, []), (91, .if_icmp .ne 8, 3, [38]), (94, .aload_n 0, 1, []), (95, .aload_n 1, 1, []), (96, .invokevirtual 85, 3, [64]), (99, .aload_n 0, 1, []), (100, .getfield 14, 3, [400]), (103, .aload_n 1, 1, []), (104, .getfield 82, 3, [900]), (107, .getfield 88, 3, [701]), (110, .ifCond .le 10, 3, [47]), (113, .aload_n 1, 1, []), (114, .getfield 82, 3, [900]), (117, .goto 7, 3, [49]), (120, .aload_n 1, 1, []), (121, .getfield 74, 3, [901]), (124, .invokevirtual 93, 3, [12]), (127, .goto 31, 3, [63]), (130, .aload_n 0, 1, []), (131, .getfield 14, 3, [400]), (134, .aload_n 1, 1, []), (135, .getfield 74, 3, [901]), (138, .getfield 88, 3, [701]), (141, .ifCond .le 10, 3, [60]), (144, .aload_n 1, 1, []), (145, .getfield 74, 3, [901]), (148, .goto 7, 3, [62]), (151, .aload_n 1, 1, []), (152, .getfield 82, 3, [900]), (155, .invokevirtual 93, 3, [12]), (158, .return_, 1, [])]
def p_Mill_change : zz_P := (61, ⟨"TurnQueues$Mill", "change", "(LTurnQueues$State;II)V"⟩, prog_6_method_4_code, 4, none, q_Mill_change)
set_option maxRecDepth 100000 in
theorem k_Mill_change : zz_okP p_Mill_change := ⟨by decide +kernel, zz_mem_r [365, 365, 278, 344, 287, 795, 278, 339, 287, 795, 285, 799, 278, 339, 328, 339, 344, 803, 278, 344, 328, 344, 339, 803] rfl (by decide +kernel)⟩
set_option maxRecDepth 100000 in
theorem o_Mill_change : zz_okC p_Mill_change false 4 4 := zz_okV (zz_mem_r (ws := [Cond.code p_Mill_change.y p_Mill_change.bytes p_Mill_change.maxL p_Mill_change.ret, Cond.initialized p_Mill_change.y.cls, Cond.instanceMethod p_Mill_change.y, Cond.selects p_Mill_change.y.cls p_Mill_change.y p_Mill_change.y]) [793, 102, 792, 15] rfl (by decide +kernel)) rfl rfl (by decide +kernel) (by decide +kernel) rfl (by decide +kernel) rfl
def q_Mill_move : List zz_C := [(0, .aload_n 1, 1, []), (1, .getfield 88, 3, [701]), (4, .ifCond .le 34, 3, [18]), (7, .aload_n 0, 1, []), (8, .getfield 14, 3, [400]), (11, .aload_n 2, 1, []), (12, .aload_n 0, 1, []), (13, .getfield 14, 3, [400]), (16, .aload_n 1, 1, []), (17, .getfield 97, 3, [700]), (20, .invokevirtual 100, 3, [8]), (23, .aload_n 0, 1, []), (24, .getfield 37, 3, [406]), (27, .invokevirtual 78, 3, [11]), (30, .aload_n 0, 1, []), (31, .getfield 14, 3, [400]), (34, .aload_n 1, 1, []), (35, .invokevirtual 93, 3, [12]), (38, .return_, 1, [])]
def p_Mill_move : zz_P := (62, ⟨"TurnQueues$Mill", "move", "(LTurnQueues$Row;LTurnQueues$Row;)V"⟩, prog_6_method_5_code, 3, none, q_Mill_move)
set_option maxRecDepth 100000 in
theorem k_Mill_move : zz_okP p_Mill_move := ⟨by decide +kernel, zz_mem_r [328, 278, 278, 324, 815, 287, 795, 278, 803] rfl (by decide +kernel)⟩
set_option maxRecDepth 100000 in
theorem o_Mill_move : zz_okC p_Mill_move false 4 3 := zz_okV (zz_mem_r (ws := [Cond.code p_Mill_move.y p_Mill_move.bytes p_Mill_move.maxL p_Mill_move.ret, Cond.initialized p_Mill_move.y.cls, Cond.instanceMethod p_Mill_move.y, Cond.selects p_Mill_move.y.cls p_Mill_move.y p_Mill_move.y]) [814, 102, 813, 18] rfl (by decide +kernel)) rfl rfl (by decide +kernel) (by decide +kernel) rfl (by decide +kernel) rfl
def q_Mill_turnAtOnce : List zz_C := [(0, .aload_n 1, 1, []), (1, .getfield 82, 3, [900]), (4, .getfield 88, 3, [701]), (7, .ifCond .le 4, 3, [5]), (10, .return_, 1, []), (11, .aload_n 1, 1, []), (12, .getfield 74, 3, [901]), (15, .getfield 88, 3, [701]), (18, .istore_n 2, 1, []), (19, .aload_n 0, 1, []), (20, .iload_n 2, 1, []), (21, .ifCond .le 7, 3, [14]), (24, .iconst 1, 1, []), (25, .goto 4, 3, [15]), (28, .iconst 0, 1, []), (29, .putfield 43, 3, [401]), (32, .iconst 0, 1, []), (33, .istore_n 3, 1, []), (34, .iload_n 3, 1, []), (35, .iload_n 2, 1, []), (36, .if_icmp .ge 21, 3, [29]), (39, .aload_n 0, 1, []), (40, .aload_n 1, 1, []), (41, .getfield 74, 3, [901]), (44, .aload_n 1, 1, []), (45, .getfield 82, 3, [900]), (48, .invokevirtual 104, 3, [62]), (51, .iinc 3 1, 3, []), (54, .goto (-20), 3, [18]), (57, .aload_n 0, 1, []), (58, .dup, 1, []), (59, .getfield 40, 3, [407]), (62, .iload_n 2, 1, []), (63, .iadd, 1, []), (64, .putfield 40, 3, [407]), (67, .return_, 1, [])]
def p_Mill_turnAtOnce : zz_P := (63, ⟨"TurnQueues$Mill", "turnAtOnce", "(LTurnQueues$State;)V"⟩, prog_6_method_6_code, 4, none, q_Mill_turnAtOnce)
set_option maxRecDepth 100000 in
theorem k_Mill_turnAtOnce : zz_okP p_Mill_turnAtOnce := ⟨by decide +kernel, zz_mem_r [339, 328, 344, 328, 280, 344, 339, 811, 288, 288] rfl (by decide +kernel)⟩
set_option maxRecDepth 100000 in
theorem o_Mill_turnAtOnce : zz_okC p_Mill_turnAtOnce false 4 2 := zz_okV (zz_mem_r (ws := [Cond.code p_Mill_turnAtOnce.y p_Mill_turnAtOnce.bytes p_Mill_turnAtOnce.maxL p_Mill_turnAtOnce.ret, Cond.initialized p_Mill_turnAtOnce.y.cls, Cond.instanceMethod p_Mill_turnAtOnce.y, Cond.selects p_Mill_turnAtOnce.y.cls p_Mill_turnAtOnce.y p_Mill_turnAtOnce.y]) [810, 102, 809, 17] rfl (by decide +kernel)) rfl rfl (by decide +kernel) (by decide +kernel) rfl (by decide +kernel) rfl
def q_Mill_disown : List zz_C := [(0, .aload_n 1, 1, []), (1, .dup, 1, []), (2, .getfield 108, 3, [907]), (5, .iconst 1, 1, []), (6, .isub, 1, []), (7, .putfield 108, 3, [907]), (10, .aload_n 1, 1, []), (11, .getfield 111, 3, [908]), (14, .iconst 2, 1, []), (15, .if_icmp .ne 29, 3, [22]), (18, .aload_n 1, 1, []), (19, .getfield 114, 3, [909]), (22, .ifCond .ne 22, 3, [22]), (25, .aload_n 0, 1, []), (26, .getfield 14, 3, [400]), (29, .aload_n 1, 1, []), (30, .getfield 117, 3, [905]), (33, .invokevirtual 93, 3, [12]), (36, .aload_n 1, 1, []), (37, .iconst 3, 1, []), (38, .putfield 111, 3, [908]), (41, .goto 29, 3, [36]), (44, .aload_n 1, 1, []), (45, .getfield 111, 3, [908]), (48, .iconst 1, 1, []), (49, .if_icmp .eq 11, 3, [30]), (52, .aload_n 1, 1, []), (53, .getfield 111, 3, [908]), (56, .iconst 2, 1, []), (57, .if_icmp .ne 13, 3, [36]), (60, .aload_n 1, 1, []), (61, .dup, 1, []), (62, .getfield 114, 3, [909]), (65, .iconst 1, 1, []), (66, .isub, 1, []), (67, .putfield 114, 3, [909]), (70, .return_, 1, [])]
def p_Mill_disown : zz_P := (64, ⟨"TurnQueues$Mill", "disown", "(LTurnQueues$State;)V"⟩, prog_6_method_7_code, 2, none, q_Mill_disown)
set_option maxRecDepth 100000 in
theorem k_Mill_disown : zz_okP p_Mill_disown := ⟨by decide +kernel, zz_mem_r [368, 368, 371, 375, 278, 360, 803, 371, 371, 371, 375, 375] rfl (by decide +kernel)⟩
set_option maxRecDepth 100000 in
theorem o_Mill_disown : zz_okC p_Mill_disown false 4 2 := zz_okV (zz_mem_r (ws := [Cond.code p_Mill_disown.y p_Mill_disown.bytes p_Mill_disown.maxL p_Mill_disown.ret, Cond.initialized p_Mill_disown.y.cls, Cond.instanceMethod p_Mill_disown.y, Cond.selects p_Mill_disown.y.cls p_Mill_disown.y p_Mill_disown.y]) [802, 102, 801, 16] rfl (by decide +kernel)) rfl rfl (by decide +kernel) (by decide +kernel) rfl (by decide +kernel) rfl
def q_Mill_turnBySteps : List zz_C := [(0, .aload_n 1, 1, []), (1, .getfield 74, 3, [901]), (4, .getfield 88, 3, [701]), (7, .aload_n 1, 1, []), (8, .getfield 108, 3, [907]), (11, .if_icmp .le 8, 3, [9]), (14, .aload_n 0, 1, []), (15, .aload_n 1, 1, []), (16, .invokevirtual 120, 3, [66]), (19, .aload_n 0, 1, []), (20, .aload_n 1, 1, []), (21, .invokevirtual 123, 3, [67]), (24, .aload_n 0, 1, []), (25, .aload_n 1, 1, []), (26, .invokevirtual 123, 3, [67]), (29, .aload_n 1, 1, []), (30, .getfield 111, 3, [908]), (33, .iconst 3, 1, []), (34, .if_icmp .ne 18, 3, [26]), (37, .aload_n 1, 1, []), (38, .getfield 82, 3, [900]), (41, .aload_n 1, 1, []), (42, .getfield 117, 3, [905]), (45, .invokevirtual 126, 3, [97]), (48, .aload_n 1, 1, []), (49, .invokevirtual 129, 3, [107]), (52, .return_, 1, [])]
def p_Mill_turnBySteps : zz_P := (65, ⟨"TurnQueues$Mill", "turnBySteps", "(LTurnQueues$State;)V"⟩, prog_6_method_8_code, 2, none, q_Mill_turnBySteps)
set_option maxRecDepth 100000 in
theorem k_Mill_turnBySteps : zz_okP p_Mill_turnBySteps := ⟨by decide +kernel, zz_mem_r [344, 328, 368, 823, 837, 837, 371, 339, 360, 835, 827] rfl (by decide +kernel)⟩
set_option maxRecDepth 100000 in
theorem o_Mill_turnBySteps : zz_okC p_Mill_turnBySteps false 4 2 := zz_okV (zz_mem_r (ws := [Cond.code p_Mill_turnBySteps.y p_Mill_turnBySteps.bytes p_Mill_turnBySteps.maxL p_Mill_turnBySteps.ret, Cond.initialized p_Mill_turnBySteps.y.cls, Cond.instanceMethod p_Mill_turnBySteps.y, Cond.selects p_Mill_turnBySteps.y.cls p_Mill_turnBySteps.y p_Mill_turnBySteps.y]) [822, 102, 821, 19] rfl (by decide +kernel)) rfl rfl (by decide +kernel) (by decide +kernel) rfl (by decide +kernel) rfl
def q_Mill_beginTurning : List zz_C := [(0, .aload_n 0, 1, []), (1, .iconst 1, 1, []), (2, .putfield 43, 3, [401]), (5, .aload_n 0, 1, []), (6, .aload_n 1, 1, []), (7, .getfield 111, 3, [908]), (10, .ifCond .eq 7, 3, [9]), (13, .iconst 1, 1, []), (14, .goto 4, 3, [10]), (17, .iconst 0, 1, []), (18, .putfield 47, 3, [402]), (21, .aload_n 1, 1, []), (22, .invokevirtual 129, 3, [107]), (25, .aload_n 1, 1, []), (26, .iconst 1, 1, []), (27, .putfield 111, 3, [908]), (30, .aload_n 1, 1, []), (31, .getfield 132, 3, [902]), (34, .aload_n 1, 1, []), (35, .getfield 82, 3, [900]), (38, .invokevirtual 126, 3, [97]), (41, .aload_n 1, 1, []), (42, .getfield 135, 3, [904]), (45, .aload_n 1, 1, []), (46, .getfield 74, 3, [901]), (49, .invokevirtual 126, 3, [97]), (52, .aload_n 1, 1, []), (53, .dup, 1, []), (54, .getfield 108, 3, [907]), (57, .aload_n 1, 1, []), (58, .getfield 74, 3, [901]), (61, .getfield 88, 3, [701]), (64, .iadd, 1, []), (65, .putfield 108, 3, [907]), (68, .aload_n 1, 1, []), (69, .getfield 74, 3, [901]), (72, .invokevirtual 138, 3, [98]), (75, .return_, 1, [])]
def p_Mill_beginTurning : zz_P := (66, ⟨"TurnQueues$Mill", "beginTurning", "(LTurnQueues$State;)V"⟩, prog_6_method_9_code, 2, none, q_Mill_beginTurning)
set_option maxRecDepth 100000 in
theorem k_Mill_beginTurning : zz_okP p_Mill_beginTurning := ⟨by decide +kernel, zz_mem_r [280, 371, 282, 827, 371, 349, 339, 835, 357, 344, 835, 368, 344, 328, 368, 344, 836] rfl (by decide +kernel)⟩
set_option maxRecDepth 100000 in
theorem o_Mill_beginTurning : zz_okC p_Mill_beginTurning false 4 2 := zz_okV (zz_mem_r (ws := [Cond.code p_Mill_beginTurning.y p_Mill_beginTurning.bytes p_Mill_beginTurning.maxL p_Mill_beginTurning.ret, Cond.initialized p_Mill_beginTurning.y.cls, Cond.instanceMethod p_Mill_beginTurning.y, Cond.selects p_Mill_beginTurning.y.cls p_Mill_beginTurning.y p_Mill_beginTurning.y]) [826, 102, 825, 20] rfl (by decide +kernel)) rfl rfl (by decide +kernel) (by decide +kernel) rfl (by decide +kernel) rfl
def q_Mill_turnOnce : List zz_C := [(0, .aload_n 1, 1, []), (1, .getfield 111, 3, [908]), (4, .iconst 1, 1, []), (5, .if_icmp .ne 68, 3, [37]), (8, .aload_n 0, 1, []), (9, .dup, 1, []), (10, .getfield 40, 3, [407]), (13, .iconst 1, 1, []), (14, .iadd, 1, []), (15, .putfield 40, 3, [407]), (18, .aload_n 1, 1, []), (19, .getfield 132, 3, [902]), (22, .getfield 88, 3, [701]), (25, .ifCond .le 28, 3, [27]), (28, .aload_n 0, 1, []), (29, .aload_n 1, 1, []), (30, .getfield 132, 3, [902]), (33, .aload_n 1, 1, []), (34, .getfield 141, 3, [903]), (37, .invokevirtual 104, 3, [62]), (40, .aload_n 1, 1, []), (41, .dup, 1, []), (42, .getfield 114, 3, [909]), (45, .iconst 1, 1, []), (46, .iadd, 1, []), (47, .putfield 114, 3, [909]), (50, .goto 8, 3, [30]), (53, .aload_n 1, 1, []), (54, .iconst 2, 1, []), (55, .putfield 111, 3, [908]), (58, .aload_n 0, 1, []), (59, .aload_n 1, 1, []), (60, .getfield 135, 3, [904]), (63, .aload_n 1, 1, []), (64, .getfield 117, 3, [905]), (67, .invokevirtual 104, 3, [62]), (70, .goto 76, 3, [76]), (73, .aload_n 1, 1, []), (74, .getfield 111, 3, [908]), (77, .iconst 2, 1, []), (78, .if_icmp .ne 45, 3, [63]), (81, .aload_n 1, 1, []), (82, .getfield 114, 3, [909]), (85, .ifCond .le 38, 3, [63]), (88, .aload_n 0, 1, []), (89, .dup, 1, []), (90, .getfield 40, 3, [407]), (93, .iconst 1, 1, []), (94, .iadd, 1, []), (95, .putfield 40, 3, [407]), (98, .aload_n 0, 1, []), (99, .aload_n 1, 1, []), (100, .getfield 141, 3, [903]), (103, .aload_n 1, 1, []), (104, .getfield 117, 3, [905]), (107, .invokevirtual 104, 3, [62]), (110, .aload_n 1, 1, []), (111, .dup, 1, []), (112, .getfield 114, 3, [909]), (115, .iconst 1, 1, []), (116, .isub, 1, []), (117, .putfield 114, 3, [909]), (120, .goto 26, 3, [76]), (123, .aload_n 1, 1, []), (124, .getfield 111, 3, [908]), (127, .iconst 2, 1, []), (128, .if_icmp .ne 18, 3, [76]), (131, .aload_n 0, 1, []), (132, .dup, 1, []), (133, .getfield 40, 3, [407]), (136, .iconst 1, 1, []), (137, .iadd, 1, []), (138, .putfield 40, 3, [407]), (141, .aload_n 1, 1, []), (142, .iconst 3, 1, []), (143, .putfield 111, 3, [908]), (146, .return_, 1, [])]
def p_Mill_turnOnce : zz_P := (67, ⟨"TurnQueues$Mill", "turnOnce", "(LTurnQueues$State;)V"⟩, prog_6_method_10_code, 2, none, q_Mill_turnOnce)
set_option maxRecDepth 100000 in
theorem k_Mill_turnOnce : zz_okP p_Mill_turnOnce := ⟨by decide +kernel, zz_mem_r [371, 288, 288, 349, 328, 349, 353, 811, 375, 375, 371, 357, 360, 811, 371, 375, 288, 288, 353, 360, 811, 375, 375, 371, 288, 288, 371] rfl (by decide +kernel)⟩
set_option maxRecDepth 100000 in
theorem o_Mill_turnOnce : zz_okC p_Mill_turnOnce false 4 2 := zz_okV (zz_mem_r (ws := [Cond.code p_Mill_turnOnce.y p_Mill_turnOnce.bytes p_Mill_turnOnce.maxL p_Mill_turnOnce.ret, Cond.initialized p_Mill_turnOnce.y.cls, Cond.instanceMethod p_Mill_turnOnce.y, Cond.selects p_Mill_turnOnce.y.cls p_Mill_turnOnce.y p_Mill_turnOnce.y]) [840, 102, 839, 21] rfl (by decide +kernel)) rfl rfl (by decide +kernel) (by decide +kernel) rfl (by decide +kernel) rfl
def q_Mill_even : List zz_C := [(0, .aload_n 1, 1, []), (1, .getfield 144, 3, [910]), (4, .iload_n 2, 1, []), (5, .invokestatic 147, 3, [300]), (8, .istore_n 3, 1, []), (9, .aload_n 1, 1, []), (10, .getfield 150, 3, [911]), (13, .iload_n 2, 1, []), (14, .invokestatic 147, 3, [300]), (17, .istore 4, 2, []), (19, .aload_n 1, 1, []), (20, .dup, 1, []), (21, .getfield 144, 3, [910]), (24, .iload_n 3, 1, []), (25, .isub, 1, []), (26, .putfield 144, 3, [910]), (29, .aload_n 1, 1, []), (30, .dup, 1, []), (31, .getfield 150, 3, [911]), (34, .iload 4, 2, []), (36, .isub, 1, []), (37, .putfield 150, 3, [911]), (40, .aload_n 0, 1, []), (41, .dup, 1, []), (42, .getfield 40, 3, [407]), (45, .iload_n 3, 1, []), (46, .iload 4, 2, []), (48, .iadd, 1, []), (49, .iadd, 1, []), (50, .putfield 40, 3, [407]), (53, .aload_n 1, 1, []), (54, .getfield 82, 3, [900]), (57, .getfield 88, 3, [701]), (60, .aload_n 0, 1, []), (61, .getfield 34, 3, [405]), (64, .aload_n 1, 1, []), (65, .getfield 74, 3, [901]), (68, .getfield 88, 3, [701]), (71, .imul, 1, []), (72, .iconst 1, 1, []), (73, .iadd, 1, []), (74, .if_icmp .le 19, 3, [50]), (77, .aload_n 0, 1, []), (78, .aload_n 1, 1, []), (79, .aload_n 1, 1, []), (80, .getfield 82, 3, [900]), (83, .aload_n 1, 1, []), (84, .getfield 74, 3, [901]), (87, .invokevirtual 153, 3, [69]), (90, .goto 40, 3, [69]), (93, .aload_n 1, 1, []), (94, .getfield 74, 3, [901]), (97, .getfield 88, 3, [701]), (100, .aload_n 0, 1, []), (101, .getfield 34, 3, [405]), (104, .aload_n 1, 1, []), (105, .getfield 82, 3, [900]), (108, .getfield 88, 3, [701]), (111, .imul, 1, []), (112, .iconst 1, 1, []), (113, .iadd, 1, []), (114, .if_icmp .le 16, 3, [69]), (117, .aload_n 0, 1, []), (118, .aload_n 1, 1, []), (119, .aload_n 1, 1, []), (120, .getfield 74, 3, [901]), (123, .aload_n 1, 1, []), (124, .getfield 82, 3, [900]), (127, .invokevirtual 153, 3, [69]), (130, .return_, 1, [])]
def p_Mill_even : zz_P := (68, ⟨"TurnQueues$Mill", "even", "(LTurnQueues$State;I)V"⟩, prog_6_method_11_code, 5, none, q_Mill_even)
set_option maxRecDepth 100000 in
theorem k_Mill_even : zz_okP p_Mill_even := ⟨by decide +kernel, zz_mem_r [379, 845, 383, 845, 379, 379, 383, 383, 288, 288, 339, 328, 286, 344, 328, 339, 344, 846, 344, 328, 286, 339, 328, 344, 339, 846] rfl (by decide +kernel)⟩
set_option maxRecDepth 100000 in
theorem o_Mill_even : zz_okC p_Mill_even false 4 3 := zz_okV (zz_mem_r (ws := [Cond.code p_Mill_even.y p_Mill_even.bytes p_Mill_even.maxL p_Mill_even.ret, Cond.initialized p_Mill_even.y.cls, Cond.instanceMethod p_Mill_even.y, Cond.selects p_Mill_even.y.cls p_Mill_even.y p_Mill_even.y]) [844, 102, 843, 22] rfl (by decide +kernel)) rfl rfl (by decide +kernel) (by decide +kernel) rfl (by decide +kernel) rfl
def q_Mill_split : List zz_C := [(0, .aload_n 0, 1, []), (1, .iconst 1, 1, []), (2, .putfield 43, 3, [401]), (5, .aload_n 0, 1, []), (6, .aload_n 1, 1, []), (7, .getfield 144, 3, [910]), (10, .ifCond .gt 10, 3, [10]), (13, .aload_n 1, 1, []), (14, .getfield 150, 3, [911]), (17, .ifCond .le 7, 3, [12]), (20, .iconst 1, 1, []), (21, .goto 4, 3, [13]), (24, .iconst 0, 1, []), (25, .putfield 47, 3, [402]), (28, .aload_n 2, 1, []), (29, .getfield 88, 3, [701]), (32, .aload_n 3, 1, []), (33, .getfield 88, 3, [701]), (36, .iadd, 1, []), (37, .istore 4, 2, []), (39, .iload 4, 2, []), (41, .iconst 2, 1, []), (42, .idiv, 1, []), (43, .istore 5, 2, []), (45, .aload_n 0, 1, []), (46, .aload_n 2, 1, []), (47, .iconst 0, 1, []), (48, .iconst 1, 1, []), (49, .invokevirtual 157, 3, [70]), (52, .aload_n 0, 1, []), (53, .aload_n 3, 1, []), (54, .iload 4, 2, []), (56, .iconst 1, 1, []), (57, .isub, 1, []), (58, .iconst (-1), 1, []), (59, .invokevirtual 157, 3, [70]), (62, .aload_n 2, 1, []), (63, .invokevirtual 138, 3, [98]), (66, .aload_n 3, 1, []), (67, .invokevirtual 138, 3, [98]), (70, .iload 5, 2, []), (72, .iconst 1, 1, []), (73, .isub, 1, []), (74, .istore 6, 2, []), (76, .iload 6, 2, []), (78, .ifCond .lt 27, 3, [57]), (81, .aload_n 0, 1, []), (82, .getfield 14, 3, [400]), (85, .aload_n 2, 1, []), (86, .aload_n 0, 1, []), (87, .iload 6, 2, []), (89, .invokevirtual 160, 3, [71]), (92, .aload_n 0, 1, []), (93, .getfield 37, 3, [406]), (96, .invokevirtual 78, 3, [11]), (99, .iinc 6 (-1), 3, []), (102, .goto (-26), 3, [44]), (105, .iload 5, 2, []), (107, .istore 6, 2, []), (109, .iload 6, 2, []), (111, .iload 4, 2, []), (113, .if_icmp .ge 27, 3, [73]), (116, .aload_n 0, 1, []), (117, .getfield 14, 3, [400]), (120, .aload_n 3, 1, []), (121, .aload_n 0, 1, []), (122, .iload 6, 2, []), (124, .invokevirtual 160, 3, [71]), (127, .aload_n 0, 1, []), (128, .getfield 37, 3, [406]), (131, .invokevirtual 78, 3, [11]), (134, .iinc 6 1, 3, []), (137, .goto (-28), 3, [59]), (140, .aload_n 1, 1, []), (141, .aload_n 1, 1, []), (142, .getfield 82, 3, [900]), (145, .getfield 88, 3, [701]), (148, .putfield 144, 3, [910]), (151, .aload_n 1, 1, []), (152, .aload_n 1, 1, []), (153, .getfield 74, 3, [901]), (156, .getfield 88, 3, [701]), (159, .putfield 150, 3, [911]), (162, .return_, 1, [])]
def p_Mill_split : zz_P := (69, ⟨"TurnQueues$Mill", "split", "(LTurnQueues$State;LTurnQueues$Row;LTurnQueues$Row;)V"⟩, prog_6_method_12_code, 7, none, q_Mill_split)
set_option maxRecDepth 100000 in
theorem k_Mill_split : zz_okP p_Mill_split := ⟨by decide +kernel, zz_mem_r [280, 379, 383, 282, 328, 328, 850, 850, 836, 836, 278, 858, 287, 795, 278, 858, 287, 795, 339, 328, 379, 344, 328, 383] rfl (by decide +kernel)⟩
set_option maxRecDepth 100000 in
theorem o_Mill_split : zz_okC p_Mill_split false 4 4 := zz_okV (zz_mem_r (ws := [Cond.code p_Mill_split.y p_Mill_split.bytes p_Mill_split.maxL p_Mill_split.ret, Cond.initialized p_Mill_split.y.cls, Cond.instanceMethod p_Mill_split.y, Cond.selects p_Mill_split.y.cls p_Mill_split.y p_Mill_split.y]) [849, 102, 848, 23] rfl (by decide +kernel)) rfl rfl (by decide +kernel) (by decide +kernel) rfl (by decide +kernel) rfl
def q_Mill_lay : List zz_C := [(0, .aload_n 1, 1, []), (1, .getfield 97, 3, [700]), (4, .istore 4, 2, []), (6, .iconst 0, 1, []), (7, .istore 5, 2, []), (9, .iload 5, 2, []), (11, .aload_n 1, 1, []), (12, .getfield 88, 3, [701]), (15, .if_icmp .ge 59, 3, [37]), (18, .iload_n 2, 1, []), (19, .iload 5, 2, []), (21, .iload_n 3, 1, []), (22, .imul, 1, []), (23, .iadd, 1, []), (24, .istore 6, 2, []), (26, .iload 6, 2, []), (28, .ifCond .lt 29, 3, [30]), (31, .iload 6, 2, []), (33, .aload_n 0, 1, []), (34, .getfield 26, 3, [403]), (37, .arraylength, 1, []), (38, .if_icmp .ge 19, 3, [30]), (41, .aload_n 0, 1, []), (42, .getfield 26, 3, [403]), (45, .iload 6, 2, []), (47, .aload_n 0, 1, []), (48, .getfield 14, 3, [400]), (51, .iload 4, 2, []), (53, .invokevirtual 100, 3, [8]), (56, .iastore, 1, []), (57, .aload_n 0, 1, []), (58, .getfield 14, 3, [400]), (61, .iload 4, 2, []), (63, .invokevirtual 163, 3, [10]), (66, .istore 4, 2, []), (68, .iinc 5 1, 3, []), (71, .goto (-62), 3, [5]), (74, .return_, 1, [])]
def p_Mill_lay : zz_P := (70, ⟨"TurnQueues$Mill", "lay", "(LTurnQueues$Row;II)V"⟩, prog_6_method_13_code, 7, none, q_Mill_lay)
set_option maxRecDepth 100000 in
theorem k_Mill_lay : zz_okP p_Mill_lay := ⟨by decide +kernel, zz_mem_r [324, 328, 284, 284, 278, 815, 278, 854] rfl (by decide +kernel)⟩
set_option maxRecDepth 100000 in
theorem o_Mill_lay : zz_okC p_Mill_lay false 4 4 := zz_okV (zz_mem_r (ws := [Cond.code p_Mill_lay.y p_Mill_lay.bytes p_Mill_lay.maxL p_Mill_lay.ret, Cond.initialized p_Mill_lay.y.cls, Cond.instanceMethod p_Mill_lay.y, Cond.selects p_Mill_lay.y.cls p_Mill_lay.y p_Mill_lay.y]) [853, 102, 852, 24] rfl (by decide +kernel)) rfl rfl (by decide +kernel) (by decide +kernel) rfl (by decide +kernel) rfl
def q_Mill_laidAt : List zz_C := [(0, .iload_n 1, 1, []), (1, .ifCond .lt 21, 3, [12]), (4, .iload_n 1, 1, []), (5, .aload_n 0, 1, []), (6, .getfield 26, 3, [403]), (9, .arraylength, 1, []), (10, .if_icmp .ge 12, 3, [12]), (13, .aload_n 0, 1, []), (14, .getfield 26, 3, [403]), (17, .iload_n 1, 1, []), (18, .iaload, 1, []), (19, .goto 4, 3, [13]), (22, .iconst (-1), 1, []), (23, .ireturn, 1, [])]
def p_Mill_laidAt : zz_P := (71, ⟨"TurnQueues$Mill", "laidAt", "(I)I"⟩, prog_6_method_14_code, 2, (some .int), q_Mill_laidAt)
set_option maxRecDepth 100000 in
theorem k_Mill_laidAt : zz_okP p_Mill_laidAt := ⟨by decide +kernel, zz_mem_r [284, 284] rfl (by decide +kernel)⟩
set_option maxRecDepth 100000 in
theorem o_Mill_laidAt : zz_okC p_Mill_laidAt false 4 2 := zz_okV (zz_mem_r (ws := [Cond.code p_Mill_laidAt.y p_Mill_laidAt.bytes p_Mill_laidAt.maxL p_Mill_laidAt.ret, Cond.initialized p_Mill_laidAt.y.cls, Cond.instanceMethod p_Mill_laidAt.y, Cond.selects p_Mill_laidAt.y.cls p_Mill_laidAt.y p_Mill_laidAt.y]) [861, 102, 860, 25] rfl (by decide +kernel)) rfl rfl (by decide +kernel) (by decide +kernel) rfl (by decide +kernel) rfl
end
section
/-! the code of the methods, printed by program -/
def q_Numbers_become : List zz_C := [(0, .aload_n 0, 1, []), (1, .aload_n 1, 1, []), (2, .getfield 21, 3, [500]), (5, .aload_n 0, 1, []), (6, .getfield 15, 3, [501]), (9, .arraylength, 1, []), (10, .invokestatic 25, 3, [300]), (13, .putfield 21, 3, [500]), (16, .iconst 0, 1, []), (17, .istore_n 2, 1, []), (18, .iload_n 2, 1, []), (19, .aload_n 0, 1, []), (20, .getfield 21, 3, [500]), (23, .if_icmp .ge 20, 3, [23]), (26, .aload_n 0, 1, []), (27, .getfield 15, 3, [501]), (30, .iload_n 2, 1, []), (31, .aload_n 1, 1, []), (32, .iload_n 2, 1, []), (33, .invokevirtual 28, 3, [74]), (36, .iastore, 1, []), (37, .iinc 2 1, 3, []), (40, .goto (-22), 3, [10]), (43, .return_, 1, [])]
def p_Numbers_become : zz_P := (73, ⟨"TurnQueues$Numbers", "become", "(LTurnQueues$Numbers;)V"⟩, prog_7_method_2_code, 3, none, q_Numbers_become)
set_option maxRecDepth 100000 in
theorem k_Numbers_become : zz_okP p_Numbers_become := ⟨by decide +kernel, zz_mem_r [417, 420, 761, 417, 417, 420, 762] rfl (by decide +kernel)⟩
set_option maxRecDepth 100000 in
theorem o_Numbers_become : zz_okC p_Numbers_become false 5 2 := zz_okV (zz_mem_r (ws := [Cond.code p_Numbers_become.y p_Numbers_become.bytes p_Numbers_become.maxL p_Numbers_become.ret, Cond.initialized p_Numbers_become.y.cls, Cond.instanceMethod p_Numbers_become.y, Cond.selects p_Numbers_become.y.cls p_Numbers_become.y p_Numbers_become.y]) [760, 106, 758, 759] rfl (by decide +kernel)) rfl rfl (by decide +kernel) (by decide +kernel) rfl (by decide +kernel) rfl
def q_Numbers_numberAt : List zz_C := [(0, .iload_n 1, 1, []), (1, .ifCond .lt 29, 3, [16]), (4, .iload_n 1, 1, []), (5, .aload_n 0, 1, []), (6, .getfield 21, 3, [500]), (9, .if_icmp .ge 21, 3, [16]), (12, .iload_n 1, 1, []), (13, .aload_n 0, 1, []), (14, .getfield 15, 3, [501]), (17, .arraylength, 1, []), (18, .if_icmp .ge 12, 3, [16]), (21, .aload_n 0, 1, []), (22, .getfield 15, 3, [501]), (25, .iload_n 1, 1, []), (26, .iaload, 1, []), (27, .goto 4, 3, [17]), (30, .iconst (-1), 1, []), (31, .ireturn, 1, [])]
def p_Numbers_numberAt : zz_P := (74, ⟨"TurnQueues$Numbers", "numberAt", "(I)I"⟩, prog_7_method_3_code, 2, (some .int), q_Numbers_numberAt)
set_option maxRecDepth 100000 in
theorem k_Numbers_numberAt : zz_okP p_Numbers_numberAt := ⟨by decide +kernel, zz_mem_r [417, 420, 420] rfl (by decide +kernel)⟩
set_option maxRecDepth 100000 in
theorem o_Numbers_numberAt : zz_okC p_Numbers_numberAt false 5 2 := zz_okV (zz_mem_r (ws := [Cond.code p_Numbers_numberAt.y p_Numbers_numberAt.bytes p_Numbers_numberAt.maxL p_Numbers_numberAt.ret, Cond.initialized p_Numbers_numberAt.y.cls, Cond.instanceMethod p_Numbers_numberAt.y, Cond.selects p_Numbers_numberAt.y.cls p_Numbers_numberAt.y p_Numbers_numberAt.y]) [765, 106, 763, 764] rfl (by decide +kernel)) rfl rfl (by decide +kernel) (by decide +kernel) rfl (by decide +kernel) rfl
def q_Numbers_change : List zz_C := [(0, .iload_n 1, 1, []), (1, .tableswitch 52 0 2 #[27, 46, 38], 27, [19, 2, 15, 9]), (28, .aload_n 0, 1, []), (29, .aload_n 0, 1, []), (30, .getfield 21, 3, [500]), (33, .iload_n 2, 1, []), (34, .invokevirtual 32, 3, [76]), (37, .iload_n 2, 1, []), (38, .ireturn, 1, []), (39, .aload_n 0, 1, []), (40, .iconst 0, 1, []), (41, .iload_n 2, 1, []), (42, .invokevirtual 32, 3, [76]), (45, .iload_n 2, 1, []), (46, .ireturn, 1, []), (47, .aload_n 0, 1, []), (48, .iconst 0, 1, []), (49, .invokevirtual 36, 3, [77]), (52, .ireturn, 1, []), (53, .aload_n 0, 1, []), (54, .aload_n 0, 1, []), (55, .getfield 21, 3, [500]), (58, .iconst 1, 1, []), (59, .isub, 1, []), (60, .invokevirtual 36, 3, [77]), (63, .ireturn, 1, [])]
def p_Numbers_change : zz_P := (75, ⟨"TurnQueues$Numbers", "change", "(II)I"⟩, prog_7_method_4_code, 3, (some .int), q_Numbers_change)
set_option maxRecDepth 100000 in
theorem k_Numbers_change : zz_okP p_Numbers_change := ⟨by decide +kernel, zz_mem_r [417, 770, 770, 774, 417, 774] rfl (by decide +kernel)⟩
set_option maxRecDepth 100000 in
theorem o_Numbers_change : zz_okC p_Numbers_change false 5 3 := zz_okV (zz_mem_r (ws := [Cond.code p_Numbers_change.y p_Numbers_change.bytes p_Numbers_change.maxL p_Numbers_change.ret, Cond.initialized p_Numbers_change.y.cls, Cond.instanceMethod p_Numbers_change.y, Cond.selects p_Numbers_change.y.cls p_Numbers_change.y p_Numbers_change.y]) [769, 106, 767, 768] rfl (by decide +kernel)) rfl rfl (by decide +kernel) (by decide +kernel) rfl (by decide +kernel) rfl
def q_Numbers_insert : List zz_C := [(0, .aload_n 0, 1, []), (1, .getfield 21, 3, [500]), (4, .aload_n 0, 1, []), (5, .getfield 15, 3, [501]), (8, .arraylength, 1, []), (9, .if_icmp .ge 15, 3, [12]), (12, .iload_n 1, 1, []), (13, .ifCond .lt 11, 3, [12]), (16, .iload_n 1, 1, []), (17, .aload_n 0, 1, []), (18, .getfield 21, 3, [500]), (21, .if_icmp .le 4, 3, [13]), (24, .return_, 1, []), (25, .aload_n 0, 1, []), (26, .getfield 21, 3, [500]), (29, .istore_n 3, 1, []), (30, .iload_n 3, 1, []), (31, .iload_n 1, 1, []), (32, .if_icmp .le 23, 3, [31]), (35, .aload_n 0, 1, []), (36, .getfield 15, 3, [501]), (39, .iload_n 3, 1, []), (40, .aload_n 0, 1, []), (41, .getfield 15, 3, [501]), (44, .iload_n 3, 1, []), (45, .iconst 1, 1, []), (46, .isub, 1, []), (47, .iaload, 1, []), (48, .iastore, 1, []), (49, .iinc 3 (-1), 3, []), (52, .goto (-22), 3, [16]), (55, .aload_n 0, 1, []), (56, .getfield 15, 3, [501]), (59, .iload_n 1, 1, []), (60, .iload_n 2, 1, []), (61, .iastore, 1, []), (62, .aload_n 0, 1, []), (63, .dup, 1, []), (64, .getfield 21, 3, [500]), (67, .iconst 1, 1, []), (68, .iadd, 1, []), (69, .putfield 21, 3, [500]), (72, .return_, 1, [])]
def p_Numbers_insert : zz_P := (76, ⟨"TurnQueues$Numbers", "insert", "(II)V"⟩, prog_7_method_5_code, 4, none, q_Numbers_insert)
set_option maxRecDepth 100000 in
theorem k_Numbers_insert : zz_okP p_Numbers_insert := ⟨by decide +kernel, zz_mem_r [417, 420, 417, 417, 420, 420, 420, 417, 417] rfl (by decide +kernel)⟩
set_option maxRecDepth 100000 in
theorem o_Numbers_insert : zz_okC p_Numbers_insert false 5 3 := zz_okV (zz_mem_r (ws := [Cond.code p_Numbers_insert.y p_Numbers_insert.bytes p_Numbers_insert.maxL p_Numbers_insert.ret, Cond.initialized p_Numbers_insert.y.cls, Cond.instanceMethod p_Numbers_insert.y, Cond.selects p_Numbers_insert.y.cls p_Numbers_insert.y p_Numbers_insert.y]) [773, 106, 772, 13] rfl (by decide +kernel)) rfl rfl (by decide +kernel) (by decide +kernel) rfl (by decide +kernel) rfl
def q_Numbers_remove : List zz_C := [(0, .aload_n 0, 1, []), (1, .iload_n 1, 1, []), (2, .invokevirtual 28, 3, [74]), (5, .istore_n 2, 1, []), (6, .iload_n 1, 1, []), (7, .ifCond .lt 11, 3, [10]), (10, .iload_n 1, 1, []), (11, .aload_n 0, 1, []), (12, .getfield 21, 3, [500]), (15, .if_icmp .lt 5, 3, [12]), (18, .iload_n 2, 1, []), (19, .ireturn, 1, []), (20, .aload_n 0, 1, []), (21, .dup, 1, []), (22, .getfield 21, 3, [500]), (25, .iconst 1, 1, []), (26, .isub, 1, []), (27, .putfield 21, 3, [500]), (30, .iload_n 1, 1, []), (31, .istore_n 3, 1, []), (32, .iload_n 3, 1, []), (33, .aload_n 0, 1, []), (34, .getfield 21, 3, [500]), (37, .if_icmp .ge 23, 3, [36]), (40, .aload_n 0, 1, []), (41, .getfield 15, 3, [501]), (44, .iload_n 3, 1, []), (45, .aload_n 0, 1, []), (46, .getfield 15, 3, [501]), (49, .iload_n 3, 1, []), (50, .iconst 1, 1, []), (51, .iadd, 1, []), (52, .iaload, 1, []), (53, .iastore, 1, []), (54, .iinc 3 1, 3, []), (57, .goto (-25), 3, [20]), (60, .iload_n 2, 1, []), (61, .ireturn, 1, [])]
def p_Numbers_remove : zz_P := (77, ⟨"TurnQueues$Numbers", "remove", "(I)I"⟩, prog_7_method_6_code, 4, (some .int), q_Numbers_remove)
set_option maxRecDepth 100000 in
theorem k_Numbers_remove : zz_okP p_Numbers_remove := ⟨by decide +kernel, zz_mem_r [762, 417, 417, 417, 417, 420, 420] rfl (by decide +kernel)⟩
set_option maxRecDepth 100000 in
theorem o_Numbers_remove : zz_okC p_Numbers_remove false 5 2 := zz_okV (zz_mem_r (ws := [Cond.code p_Numbers_remove.y p_Numbers_remove.bytes p_Numbers_remove.maxL p_Numbers_remove.ret, Cond.initialized p_Numbers_remove.y.cls, Cond.instanceMethod p_Numbers_remove.y, Cond.selects p_Numbers_remove.y.cls p_Numbers_remove.y p_Numbers_remove.y]) [777, 106, 776, 14] rfl (by decide +kernel)) rfl rfl (by decide +kernel) (by decide +kernel) rfl (by decide +kernel) rfl
def q_Numbers_equalTo : List zz_C := [(0, .aload_n 0, 1, []), (1, .getfield 21, 3, [500]), (4, .aload_n 1, 1, []), (5, .getfield 21, 3, [500]), (8, .if_icmp .ne 7, 3, [7]), (11, .iconst 1, 1, []), (12, .goto 4, 3, [8]), (15, .iconst 0, 1, []), (16, .istore_n 2, 1, []), (17, .iconst 0, 1, []), (18, .istore_n 3, 1, []), (19, .iload_n 2, 1, []), (20, .ifCond .eq 36, 3, [30]), (23, .iload_n 3, 1, []), (24, .aload_n 0, 1, []), (25, .getfield 21, 3, [500]), (28, .if_icmp .ge 28, 3, [30]), (31, .aload_n 0, 1, []), (32, .iload_n 3, 1, []), (33, .invokevirtual 28, 3, [74]), (36, .aload_n 1, 1, []), (37, .iload_n 3, 1, []), (38, .invokevirtual 28, 3, [74]), (41, .if_icmp .ne 7, 3, [26]), (44, .iconst 1, 1, []), (45, .goto 4, 3, [27]), (48, .iconst 0, 1, []), (49, .istore_n 2, 1, []), (50, .iinc 3 1, 3, []), (53, .goto (-34), 3, [11]), (56, .iload_n 2, 1, []), (57, .ireturn, 1, [])]
def p_Numbers_equalTo : zz_P := (78, ⟨"TurnQueues$Numbers", "equalTo", "(LTurnQueues$Numbers;)Z"⟩, prog_7_method_7_code, 4, (some .boolean), q_Numbers_equalTo)
set_option maxRecDepth 100000 in
theorem k_Numbers_equalTo : zz_okP p_Numbers_equalTo := ⟨by decide +kernel, zz_mem_r [417, 417, 417, 762, 762] rfl (by decide +kernel)⟩
set_option maxRecDepth 100000 in
theorem o_Numbers_equalTo : zz_okC p_Numbers_equalTo false 5 2 := zz_okV (zz_mem_r (ws := [Cond.code p_Numbers_equalTo.y p_Numbers_equalTo.bytes p_Numbers_equalTo.maxL p_Numbers_equalTo.ret, Cond.initialized p_Numbers_equalTo.y.cls, Cond.instanceMethod p_Numbers_equalTo.y, Cond.selects p_Numbers_equalTo.y.cls p_Numbers_equalTo.y p_Numbers_equalTo.y]) [914, 106, 912, 913] rfl (by decide +kernel)) rfl rfl (by decide +kernel) (by decide +kernel) rfl (by decide +kernel) rfl
end
section
/-! the code of the methods, printed by program -/
def q_Reader_readText : List zz_C := [(0, .aload_n 0, 1, []), (1, .getfield 12, 3, [600]), (4, .invokevirtual 26, 3, [18]), (7, .aload_n 0, 1, []), (8, .iconst 0, 1, []), (9, .putfield 29, 3, [601]), (12, .aload_n 0, 1, []), (13, .iconst (-1), 1, []), (14, .putfield 18, 3, [602]), (17, .aload_n 0, 1, []), (18, .iconst 0, 1, []), (19, .putfield 32, 3, [606]), (22, .aload_n 0, 1, []), (23, .aload_n 1, 1, []), (24, .invokevirtual 35, 3, [90]), (27, .aload_n 0, 1, []), (28, .getfield 39, 3, [604]), (31, .iconst 4, 1, []), (32, .if_icmp .eq 8, 3, [22]), (35, .aload_n 0, 1, []), (36, .aload_n 1, 1, []), (37, .invokevirtual 42, 3, [81]), (40, .iconst 0, 1, []), (41, .istore_n 2, 1, []), (42, .iload_n 2, 1, []), (43, .bipush 40, 2, []), (45, .if_icmp .gt 29, 3, [39]), (48, .aload_n 0, 1, []), (49, .getfield 29, 3, [601]), (52, .ifCond .ne 22, 3, [39]), (55, .aload_n 0, 1, []), (56, .getfield 39, 3, [604]), (59, .iconst 4, 1, []), (60, .if_icmp .eq 14, 3, [39]), (63, .aload_n 0, 1, []), (64, .aload_n 1, 1, []), (65, .invokevirtual 45, 3, [82]), (68, .iinc 2 1, 3, []), (71, .goto (-29), 3, [24]), (74, .aload_n 0, 1, []), (75, .getfield 12, 3, [600]), (78, .aload_n 0, 1, []), (79, .getfield 12, 3, [600]), (82, .getfield 48, 3, [204]), (85, .putfield 51, 3, [203]), (88, .aload_n 0, 1, []), (89, .getfield 29, 3, [601]), (92, .ifCond .ne 7, 3, [50]), (95, .iconst 1, 1, []), (96, .goto 4, 3, [51]), (99, .iconst 0, 1, []), (100, .ireturn, 1, [])]
def p_Reader_readText : zz_P := (80, ⟨"TurnQueues$Reader", "readText", "(LTurnQueues$Bytes;)Z"⟩, prog_8_method_2_code, 3, (some .boolean), q_Reader_readText)
set_option maxRecDepth 100000 in
theorem k_Reader_readText : zz_okP p_Reader_readText := ⟨by decide +kernel, zz_mem_r [207, 591, 209, 211, 216, 595, 214, 623, 209, 214, 698, 207, 207, 174, 171, 209] rfl (by decide +kernel)⟩
set_option maxRecDepth 100000 in
theorem o_Reader_readText : zz_okC p_Reader_readText false 6 2 := zz_okV (zz_mem_r (ws := [Cond.code p_Reader_readText.y p_Reader_readText.bytes p_Reader_readText.maxL p_Reader_readText.ret, Cond.initialized p_Reader_readText.y.cls, Cond.instanceMethod p_Reader_readText.y, Cond.selects p_Reader_readText.y.cls p_Reader_readText.y p_Reader_readText.y]) [590, 99, 588, 589] rfl (by decide +kernel)) rfl rfl (by decide +kernel) (by decide +kernel) rfl (by decide +kernel) rfl
def q_Reader_readHouseLine : List zz_C := [(0, .aload_n 0, 1, []), (1, .aload_n 1, 1, []), (2, .ldc 54, 2, [0, 0]), (4, .invokevirtual 56, 3, [86]), (7, .aload_n 0, 1, []), (8, .aload_n 1, 1, []), (9, .ldc 60, 2, [0, 1]), (11, .invokevirtual 56, 3, [86]), (14, .aload_n 0, 1, []), (15, .getfield 12, 3, [600]), (18, .aload_n 0, 1, []), (19, .aload_n 1, 1, []), (20, .iconst 0, 1, []), (21, .iconst 2, 1, []), (22, .invokevirtual 62, 3, [88]), (25, .putfield 66, 3, [201]), (28, .aload_n 0, 1, []), (29, .aload_n 1, 1, []), (30, .ldc 68, 2, [0, 2]), (32, .invokevirtual 56, 3, [86]), (35, .aload_n 0, 1, []), (36, .getfield 12, 3, [600]), (39, .aload_n 0, 1, []), (40, .aload_n 1, 1, []), (41, .iconst 2, 1, []), (42, .iconst 4, 1, []), (43, .invokevirtual 62, 3, [88]), (46, .putfield 70, 3, [202]), (49, .aload_n 0, 1, []), (50, .aload_n 1, 1, []), (51, .invokevirtual 73, 3, [87]), (54, .aload_n 0, 1, []), (55, .getfield 12, 3, [600]), (58, .iconst 1, 1, []), (59, .putfield 76, 3, [200]), (62, .aload_n 0, 1, []), (63, .getfield 22, 3, [603]), (66, .iconst 0, 1, []), (67, .iconst 0, 1, []), (68, .iastore, 1, []), (69, .return_, 1, [])]
def p_Reader_readHouseLine : zz_P := (81, ⟨"TurnQueues$Reader", "readHouseLine", "(LTurnQueues$Bytes;)V"⟩, prog_8_method_3_code, 2, none, q_Reader_readHouseLine)
set_option maxRecDepth 100000 in
theorem k_Reader_readHouseLine : zz_okP p_Reader_readHouseLine := ⟨by decide +kernel, zz_mem_r [628, 628, 207, 689, 162, 628, 207, 689, 168, 694, 207, 156, 213] rfl (by decide +kernel)⟩
set_option maxRecDepth 100000 in
theorem o_Reader_readHouseLine : zz_okC p_Reader_readHouseLine false 6 2 := zz_okV (zz_mem_r (ws := [Cond.code p_Reader_readHouseLine.y p_Reader_readHouseLine.bytes p_Reader_readHouseLine.maxL p_Reader_readHouseLine.ret, Cond.initialized p_Reader_readHouseLine.y.cls, Cond.instanceMethod p_Reader_readHouseLine.y, Cond.selects p_Reader_readHouseLine.y.cls p_Reader_readHouseLine.y p_Reader_readHouseLine.y]) [626, 99, 625, 3] rfl (by decide +kernel)) rfl rfl (by decide +kernel) (by decide +kernel) rfl (by decide +kernel) rfl
def q_Reader_readDeedLine : List zz_C := [(0, .aload_n 0, 1, []), (1, .aload_n 1, 1, []), (2, .invokevirtual 80, 3, [84]), (5, .istore_n 2, 1, []), (6, .iload_n 2, 1, []), (7, .invokestatic 84, 3, [178, 0]), (10, .istore_n 3, 1, []), (11, .iload_n 2, 1, []), (12, .iconst (-1), 1, []), (13, .if_icmp .ne 11, 3, [14]), (16, .aload_n 0, 1, []), (17, .iconst 1, 1, []), (18, .invokevirtual 88, 3, [85]), (21, .goto 20, 3, [22]), (24, .aload_n 0, 1, []), (25, .getfield 12, 3, [600]), (28, .getfield 48, 3, [204]), (31, .bipush 40, 2, []), (33, .if_icmp .lt 8, 3, [22]), (36, .aload_n 0, 1, []), (37, .iconst 3, 1, []), (38, .invokevirtual 88, 3, [85]), (41, .aload_n 0, 1, []), (42, .aload_n 1, 1, []), (43, .invokevirtual 35, 3, [90]), (46, .aload_n 0, 1, []), (47, .aload_n 1, 1, []), (48, .iload_n 3, 1, []), (49, .invokevirtual 92, 3, [83]), (52, .istore 4, 2, []), (54, .iload_n 3, 1, []), (55, .ifCond .eq 14, 3, [38]), (58, .aload_n 0, 1, []), (59, .aload_n 1, 1, []), (60, .iconst 0, 1, []), (61, .bipush 99, 2, []), (63, .invokevirtual 62, 3, [88]), (66, .goto 4, 3, [39]), (69, .iconst (-1), 1, []), (70, .istore 5, 2, []), (72, .aload_n 0, 1, []), (73, .aload_n 1, 1, []), (74, .invokevirtual 73, 3, [87]), (77, .aload_n 0, 1, []), (78, .getfield 29, 3, [601]), (81, .ifCond .ne 75, 3, [82]), (84, .aload_n 0, 1, []), (85, .getfield 12, 3, [600]), (88, .getfield 48, 3, [204]), (91, .bipush 40, 2, []), (93, .if_icmp .ge 63, 3, [82]), (96, .iload 4, 2, []), (98, .ifCond .lt 58, 3, [82]), (101, .iload 4, 2, []), (103, .aload_n 0, 1, []), (104, .getfield 12, 3, [600]), (107, .getfield 48, 3, [204]), (110, .if_icmp .gt 46, 3, [82]), (113, .aload_n 0, 1, []), (114, .getfield 22, 3, [603]), (117, .aload_n 0, 1, []), (118, .getfield 12, 3, [600]), (121, .getfield 48, 3, [204]), (124, .iconst 1, 1, []), (125, .iadd, 1, []), (126, .aload_n 0, 1, []), (127, .getfield 22, 3, [603]), (130, .iload 4, 2, []), (132, .iaload, 1, []), (133, .iload_n 3, 1, []), (134, .ifCond .eq 7, 3, [73]), (137, .iconst 1, 1, []), (138, .goto 4, 3, [74]), (141, .iconst (-1), 1, []), (142, .iadd, 1, []), (143, .iastore, 1, []), (144, .aload_n 0, 1, []), (145, .getfield 12, 3, [600]), (148, .iload_n 2, 1, []), (149, .iload 4, 2, []), (151, .iload 5, 2, []), (153, .invokevirtual 96, 3, [20]), (156, .return_, 1, [])]
def p_Reader_readDeedLine : zz_P := (82, ⟨"TurnQueues$Reader", "readDeedLine", "(LTurnQueues$Bytes;)V"⟩, prog_8_method_4_code, 6, none, q_Reader_readDeedLine)
set_option maxRecDepth 100000 in
theorem k_Reader_readDeedLine : zz_okP p_Reader_readDeedLine := ⟨by decide +kernel, zz_mem_r [702, 684, 207, 174, 684, 595, 713, 689, 694, 209, 207, 174, 207, 174, 213, 207, 174, 213, 207, 717] rfl (by decide +kernel)⟩
set_option maxRecDepth 100000 in
theorem o_Reader_readDeedLine : zz_okC p_Reader_readDeedLine false 6 2 := zz_okV (zz_mem_r (ws := [Cond.code p_Reader_readDeedLine.y p_Reader_readDeedLine.bytes p_Reader_readDeedLine.maxL p_Reader_readDeedLine.ret, Cond.initialized p_Reader_readDeedLine.y.cls, Cond.instanceMethod p_Reader_readDeedLine.y, Cond.selects p_Reader_readDeedLine.y.cls p_Reader_readDeedLine.y p_Reader_readDeedLine.y]) [701, 99, 700, 9] rfl (by decide +kernel)) rfl rfl (by decide +kernel) (by decide +kernel) rfl (by decide +kernel) rfl
def q_Reader_expectVersion : List zz_C := [(0, .aload_n 0, 1, []), (1, .getfield 39, 3, [604]), (4, .iconst 2, 1, []), (5, .if_icmp .ne 40, 3, [21]), (8, .aload_n 0, 1, []), (9, .getfield 100, 3, [607]), (12, .ifCond .lt 33, 3, [21]), (15, .aload_n 0, 1, []), (16, .getfield 100, 3, [607]), (19, .aload_n 0, 1, []), (20, .getfield 12, 3, [600]), (23, .getfield 48, 3, [204]), (26, .if_icmp .gt 19, 3, [21]), (29, .aload_n 0, 1, []), (30, .getfield 100, 3, [607]), (33, .aload_n 0, 1, []), (34, .getfield 22, 3, [603]), (37, .arraylength, 1, []), (38, .if_icmp .ge 7, 3, [21]), (41, .iconst 1, 1, []), (42, .goto 4, 3, [22]), (45, .iconst 0, 1, []), (46, .istore_n 3, 1, []), (47, .iload_n 3, 1, []), (48, .ifCond .eq 24, 3, [36]), (51, .iload_n 2, 1, []), (52, .ifCond .ne 20, 3, [36]), (55, .aload_n 0, 1, []), (56, .getfield 22, 3, [603]), (59, .aload_n 0, 1, []), (60, .getfield 100, 3, [607]), (63, .iaload, 1, []), (64, .ifCond .ne 8, 3, [36]), (67, .aload_n 0, 1, []), (68, .iconst 2, 1, []), (69, .invokevirtual 88, 3, [85]), (72, .aload_n 0, 1, []), (73, .aload_n 1, 1, []), (74, .iconst 0, 1, []), (75, .aload_n 0, 1, []), (76, .getfield 12, 3, [600]), (79, .getfield 48, 3, [204]), (82, .invokevirtual 62, 3, [88]), (85, .ireturn, 1, [])]
def p_Reader_expectVersion : zz_P := (83, ⟨"TurnQueues$Reader", "expectVersion", "(LTurnQueues$Bytes;Z)I"⟩, prog_8_method_5_code, 4, (some .int), q_Reader_expectVersion)
set_option maxRecDepth 100000 in
theorem k_Reader_expectVersion : zz_okP p_Reader_expectVersion := ⟨by decide +kernel, zz_mem_r [214, 217, 217, 207, 174, 217, 213, 213, 217, 684, 207, 174, 689] rfl (by decide +kernel)⟩
set_option maxRecDepth 100000 in
theorem o_Reader_expectVersion : zz_okC p_Reader_expectVersion false 6 3 := zz_okV (zz_mem_r (ws := [Cond.code p_Reader_expectVersion.y p_Reader_expectVersion.bytes p_Reader_expectVersion.maxL p_Reader_expectVersion.ret, Cond.initialized p_Reader_expectVersion.y.cls, Cond.instanceMethod p_Reader_expectVersion.y, Cond.selects p_Reader_expectVersion.y.cls p_Reader_expectVersion.y p_Reader_expectVersion.y]) [716, 99, 715, 11] rfl (by decide +kernel)) rfl rfl (by decide +kernel) (by decide +kernel) rfl (by decide +kernel) rfl
def q_Reader_kindOfWord : List zz_C := [(0, .aload_n 0, 1, []), (1, .aload_n 1, 1, []), (2, .ldc 103, 2, [0, 3]), (4, .invokevirtual 105, 3, [89]), (7, .ifCond .eq 5, 3, [7]), (10, .iconst 0, 1, []), (11, .ireturn, 1, []), (12, .aload_n 0, 1, []), (13, .aload_n 1, 1, []), (14, .ldc 109, 2, [0, 4]), (16, .invokevirtual 105, 3, [89]), (19, .ifCond .eq 5, 3, [14]), (22, .iconst 1, 1, []), (23, .ireturn, 1, []), (24, .aload_n 0, 1, []), (25, .getfield 12, 3, [600]), (28, .getfield 66, 3, [201]), (31, .iconst 2, 1, []), (32, .if_icmp .ne 15, 3, [26]), (35, .aload_n 0, 1, []), (36, .aload_n 1, 1, []), (37, .ldc 111, 2, [0, 5]), (39, .invokevirtual 105, 3, [89]), (42, .ifCond .eq 5, 3, [26]), (45, .iconst 2, 1, []), (46, .ireturn, 1, []), (47, .aload_n 0, 1, []), (48, .getfield 12, 3, [600]), (51, .getfield 66, 3, [201]), (54, .iconst 2, 1, []), (55, .if_icmp .ne 17, 3, [38]), (58, .aload_n 0, 1, []), (59, .aload_n 1, 1, []), (60, .ldc 113, 2, [0, 6]), (62, .invokevirtual 105, 3, [89]), (65, .ifCond .eq 7, 3, [38]), (68, .iconst 3, 1, []), (69, .goto 4, 3, [39]), (72, .iconst (-1), 1, []), (73, .ireturn, 1, [])]
def p_Reader_kindOfWord : zz_P := (84, ⟨"TurnQueues$Reader", "kindOfWord", "(LTurnQueues$Bytes;)I"⟩, prog_8_method_6_code, 2, (some .int), q_Reader_kindOfWord)
set_option maxRecDepth 100000 in
theorem k_Reader_kindOfWord : zz_okP p_Reader_kindOfWord := ⟨by decide +kernel, zz_mem_r [632, 632, 207, 162, 632, 207, 162, 632] rfl (by decide +kernel)⟩
set_option maxRecDepth 100000 in
theorem o_Reader_kindOfWord : zz_okC p_Reader_kindOfWord false 6 2 := zz_okV (zz_mem_r (ws := [Cond.code p_Reader_kindOfWord.y p_Reader_kindOfWord.bytes p_Reader_kindOfWord.maxL p_Reader_kindOfWord.ret, Cond.initialized p_Reader_kindOfWord.y.cls, Cond.instanceMethod p_Reader_kindOfWord.y, Cond.selects p_Reader_kindOfWord.y.cls p_Reader_kindOfWord.y p_Reader_kindOfWord.y]) [705, 99, 704, 10] rfl (by decide +kernel)) rfl rfl (by decide +kernel) (by decide +kernel) rfl (by decide +kernel) rfl
def q_Reader_refuse : List zz_C := [(0, .aload_n 0, 1, []), (1, .getfield 29, 3, [601]), (4, .ifCond .ne 16, 3, [10]), (7, .aload_n 0, 1, []), (8, .iload_n 1, 1, []), (9, .putfield 29, 3, [601]), (12, .aload_n 0, 1, []), (13, .aload_n 0, 1, []), (14, .getfield 115, 3, [605]), (17, .putfield 18, 3, [602]), (20, .return_, 1, [])]
def p_Reader_refuse : zz_P := (85, ⟨"TurnQueues$Reader", "refuse", "(I)V"⟩, prog_8_method_7_code, 2, none, q_Reader_refuse)
set_option maxRecDepth 100000 in
theorem k_Reader_refuse : zz_okP p_Reader_refuse := ⟨by decide +kernel, zz_mem_r [209, 209, 215, 211] rfl (by decide +kernel)⟩
set_option maxRecDepth 100000 in
theorem o_Reader_refuse : zz_okC p_Reader_refuse false 6 2 := zz_okV (zz_mem_r (ws := [Cond.code p_Reader_refuse.y p_Reader_refuse.bytes p_Reader_refuse.maxL p_Reader_refuse.ret, Cond.initialized p_Reader_refuse.y.cls, Cond.instanceMethod p_Reader_refuse.y, Cond.selects p_Reader_refuse.y.cls p_Reader_refuse.y p_Reader_refuse.y]) [687, 99, 686, 6] rfl (by decide +kernel)) rfl rfl (by decide +kernel) (by decide +kernel) rfl (by decide +kernel) rfl
def q_Reader_expectWord : List zz_C := [(0, .aload_n 0, 1, []), (1, .aload_n 1, 1, []), (2, .aload_n 2, 1, []), (3, .invokevirtual 105, 3, [89]), (6, .ifCond .eq 11, 3, [9]), (9, .aload_n 0, 1, []), (10, .aload_n 1, 1, []), (11, .invokevirtual 35, 3, [90]), (14, .goto 8, 3, [12]), (17, .aload_n 0, 1, []), (18, .iconst 1, 1, []), (19, .invokevirtual 88, 3, [85]), (22, .return_, 1, [])]
def p_Reader_expectWord : zz_P := (86, ⟨"TurnQueues$Reader", "expectWord", "(LTurnQueues$Bytes;Ljava/lang/String;)V"⟩, prog_8_method_8_code, 3, none, q_Reader_expectWord)
set_option maxRecDepth 100000 in
theorem k_Reader_expectWord : zz_okP p_Reader_expectWord := ⟨by decide +kernel, zz_mem_r [632, 595, 684] rfl (by decide +kernel)⟩
set_option maxRecDepth 100000 in
theorem o_Reader_expectWord : zz_okC p_Reader_expectWord false 6 3 := zz_okV (zz_mem_r (ws := [Cond.code p_Reader_expectWord.y p_Reader_expectWord.bytes p_Reader_expectWord.maxL p_Reader_expectWord.ret, Cond.initialized p_Reader_expectWord.y.cls, Cond.instanceMethod p_Reader_expectWord.y, Cond.selects p_Reader_expectWord.y.cls p_Reader_expectWord.y p_Reader_expectWord.y]) [631, 99, 630, 4] rfl (by decide +kernel)) rfl rfl (by decide +kernel) (by decide +kernel) rfl (by decide +kernel) rfl
def q_Reader_expectSign : List zz_C := [(0, .aload_n 0, 1, []), (1, .getfield 39, 3, [604]), (4, .iconst 3, 1, []), (5, .if_icmp .ne 11, 3, [8]), (8, .aload_n 0, 1, []), (9, .aload_n 1, 1, []), (10, .invokevirtual 35, 3, [90]), (13, .goto 8, 3, [11]), (16, .aload_n 0, 1, []), (17, .iconst 1, 1, []), (18, .invokevirtual 88, 3, [85]), (21, .return_, 1, [])]
def p_Reader_expectSign : zz_P := (87, ⟨"TurnQueues$Reader", "expectSign", "(LTurnQueues$Bytes;)V"⟩, prog_8_method_9_code, 2, none, q_Reader_expectSign)
set_option maxRecDepth 100000 in
theorem k_Reader_expectSign : zz_okP p_Reader_expectSign := ⟨by decide +kernel, zz_mem_r [214, 595, 684] rfl (by decide +kernel)⟩
set_option maxRecDepth 100000 in
theorem o_Reader_expectSign : zz_okC p_Reader_expectSign false 6 2 := zz_okV (zz_mem_r (ws := [Cond.code p_Reader_expectSign.y p_Reader_expectSign.bytes p_Reader_expectSign.maxL p_Reader_expectSign.ret, Cond.initialized p_Reader_expectSign.y.cls, Cond.instanceMethod p_Reader_expectSign.y, Cond.selects p_Reader_expectSign.y.cls p_Reader_expectSign.y p_Reader_expectSign.y]) [697, 99, 696, 8] rfl (by decide +kernel)) rfl rfl (by decide +kernel) (by decide +kernel) rfl (by decide +kernel) rfl
def q_Reader_expectNumber : List zz_C := [(0, .aload_n 0, 1, []), (1, .getfield 100, 3, [607]), (4, .istore 4, 2, []), (6, .aload_n 0, 1, []), (7, .getfield 39, 3, [604]), (10, .iconst 2, 1, []), (11, .if_icmp .eq 11, 3, [11]), (14, .aload_n 0, 1, []), (15, .iconst 1, 1, []), (16, .invokevirtual 88, 3, [85]), (19, .goto 28, 3, [24]), (22, .iload 4, 2, []), (24, .iload_n 2, 1, []), (25, .if_icmp .lt 9, 3, [17]), (28, .iload 4, 2, []), (30, .iload_n 3, 1, []), (31, .if_icmp .le 11, 3, [21]), (34, .aload_n 0, 1, []), (35, .iconst 2, 1, []), (36, .invokevirtual 88, 3, [85]), (39, .goto 8, 3, [24]), (42, .aload_n 0, 1, []), (43, .aload_n 1, 1, []), (44, .invokevirtual 35, 3, [90]), (47, .aload_n 0, 1, []), (48, .getfield 29, 3, [601]), (51, .ifCond .ne 8, 3, [29]), (54, .iload 4, 2, []), (56, .goto 4, 3, [30]), (59, .iload_n 2, 1, []), (60, .ireturn, 1, [])]
def p_Reader_expectNumber : zz_P := (88, ⟨"TurnQueues$Reader", "expectNumber", "(LTurnQueues$Bytes;II)I"⟩, prog_8_method_10_code, 5, (some .int), q_Reader_expectNumber)
set_option maxRecDepth 100000 in
theorem k_Reader_expectNumber : zz_okP p_Reader_expectNumber := ⟨by decide +kernel, zz_mem_r [217, 214, 684, 684, 595, 209] rfl (by decide +kernel)⟩
set_option maxRecDepth 100000 in
theorem o_Reader_expectNumber : zz_okC p_Reader_expectNumber false 6 4 := zz_okV (zz_mem_r (ws := [Cond.code p_Reader_expectNumber.y p_Reader_expectNumber.bytes p_Reader_expectNumber.maxL p_Reader_expectNumber.ret, Cond.initialized p_Reader_expectNumber.y.cls, Cond.instanceMethod p_Reader_expectNumber.y, Cond.selects p_Reader_expectNumber.y.cls p_Reader_expectNumber.y p_Reader_expectNumber.y]) [692, 99, 691, 7] rfl (by decide +kernel)) rfl rfl (by decide +kernel) (by decide +kernel) rfl (by decide +kernel) rfl
def q_Reader_isWord : List zz_C := [(0, .aload_n 0, 1, []), (1, .getfield 39, 3, [604]), (4, .iconst 1, 1, []), (5, .if_icmp .ne 23, 3, [14]), (8, .aload_n 0, 1, []), (9, .getfield 32, 3, [606]), (12, .aload_n 0, 1, []), (13, .getfield 115, 3, [605]), (16, .isub, 1, []), (17, .aload_n 2, 1, []), (18, .invokevirtual 118, 3, [297]), (21, .if_icmp .ne 7, 3, [14]), (24, .iconst 1, 1, []), (25, .goto 4, 3, [15]), (28, .iconst 0, 1, []), (29, .istore_n 3, 1, []), (30, .iconst 0, 1, []), (31, .istore 4, 2, []), (33, .iload_n 3, 1, []), (34, .ifCond .eq 44, 3, [40]), (37, .iload 4, 2, []), (39, .aload_n 2, 1, []), (40, .invokevirtual 118, 3, [297]), (43, .if_icmp .ge 35, 3, [40]), (46, .aload_n 1, 1, []), (47, .aload_n 0, 1, []), (48, .getfield 115, 3, [605]), (51, .iload 4, 2, []), (53, .iadd, 1, []), (54, .invokevirtual 124, 3, [5]), (57, .aload_n 2, 1, []), (58, .iload 4, 2, []), (60, .invokevirtual 130, 3, [298]), (63, .if_icmp .ne 7, 3, [36]), (66, .iconst 1, 1, []), (67, .goto 4, 3, [37]), (70, .iconst 0, 1, []), (71, .istore_n 3, 1, []), (72, .iinc 4 1, 3, []), (75, .goto (-42), 3, [18]), (78, .iload_n 3, 1, []), (79, .ireturn, 1, [])]
def p_Reader_isWord : zz_P := (89, ⟨"TurnQueues$Reader", "isWord", "(LTurnQueues$Bytes;Ljava/lang/String;)Z"⟩, prog_8_method_11_code, 5, (some .boolean), q_Reader_isWord)
set_option maxRecDepth 100000 in
theorem k_Reader_isWord : zz_okP p_Reader_isWord := ⟨by decide +kernel, zz_mem_r [214, 216, 215, 636, 636, 215, 599, 646] rfl (by decide +kernel)⟩
set_option maxRecDepth 100000 in
theorem o_Reader_isWord : zz_okC p_Reader_isWord false 6 3 := zz_okV (zz_mem_r (ws := [Cond.code p_Reader_isWord.y p_Reader_isWord.bytes p_Reader_isWord.maxL p_Reader_isWord.ret, Cond.initialized p_Reader_isWord.y.cls, Cond.instanceMethod p_Reader_isWord.y, Cond.selects p_Reader_isWord.y.cls p_Reader_isWord.y p_Reader_isWord.y]) [635, 99, 634, 5] rfl (by decide +kernel)) rfl rfl (by decide +kernel) (by decide +kernel) rfl (by decide +kernel) rfl
def q_Reader_step : List zz_C := [(0, .aload_n 0, 1, []), (1, .getfield 29, 3, [601]), (4, .ifCond .eq 4, 3, [4]), (7, .return_, 1, []), (8, .aload_n 0, 1, []), (9, .getfield 32, 3, [606]), (12, .aload_n 1, 1, []), (13, .getfield 134, 3, [0]), (16, .if_icmp .ge 30, 3, [22]), (19, .aload_n 1, 1, []), (20, .aload_n 0, 1, []), (21, .getfield 32, 3, [606]), (24, .invokevirtual 124, 3, [5]), (27, .invokestatic 136, 3, [93]), (30, .ifCond .eq 16, 3, [22]), (33, .aload_n 0, 1, []), (34, .dup, 1, []), (35, .getfield 32, 3, [606]), (38, .iconst 1, 1, []), (39, .iadd, 1, []), (40, .putfield 32, 3, [606]), (43, .goto (-35), 3, [4]), (46, .aload_n 0, 1, []), (47, .aload_n 0, 1, []), (48, .getfield 32, 3, [606]), (51, .putfield 115, 3, [605]), (54, .aload_n 1, 1, []), (55, .aload_n 0, 1, []), (56, .getfield 32, 3, [606]), (59, .invokevirtual 124, 3, [5]), (62, .istore_n 2, 1, []), (63, .aload_n 0, 1, []), (64, .getfield 32, 3, [606]), (67, .aload_n 1, 1, []), (68, .getfield 134, 3, [0]), (71, .if_icmp .lt 11, 3, [40]), (74, .aload_n 0, 1, []), (75, .iconst 4, 1, []), (76, .putfield 39, 3, [604]), (79, .goto 58, 3, [68]), (82, .iload_n 2, 1, []), (83, .invokestatic 139, 3, [94]), (86, .ifCond .eq 11, 3, [47]), (89, .aload_n 0, 1, []), (90, .aload_n 1, 1, []), (91, .invokevirtual 142, 3, [91]), (94, .goto 43, 3, [68]), (97, .iload_n 2, 1, []), (98, .invokestatic 145, 3, [95]), (101, .ifCond .eq 11, 3, [54]), (104, .aload_n 0, 1, []), (105, .aload_n 1, 1, []), (106, .invokevirtual 148, 3, [92]), (109, .goto 28, 3, [68]), (112, .aload_n 0, 1, []), (113, .iload_n 2, 1, []), (114, .bipush 59, 2, []), (116, .if_icmp .ne 7, 3, [60]), (119, .iconst 3, 1, []), (120, .goto 4, 3, [61]), (123, .iconst 0, 1, []), (124, .putfield 39, 3, [604]), (127, .aload_n 0, 1, []), (128, .dup, 1, []), (129, .getfield 32, 3, [606]), (132, .iconst 1, 1, []), (133, .iadd, 1, []), (134, .putfield 32, 3, [606]), (137, .return_, 1, [])]
def p_Reader_step : zz_P := (90, ⟨"TurnQueues$Reader", "step", "(LTurnQueues$Bytes;)V"⟩, prog_8_method_12_code, 3, none, q_Reader_step)
set_option maxRecDepth 100000 in
theorem k_Reader_step : zz_okP p_Reader_step := ⟨by decide +kernel, zz_mem_r [209, 216, 134, 216, 599, 603, 216, 216, 216, 215, 216, 599, 216, 134, 214, 606, 609, 613, 616, 214, 216, 216] rfl (by decide +kernel)⟩
set_option maxRecDepth 100000 in
theorem o_Reader_step : zz_okC p_Reader_step false 6 2 := zz_okV (zz_mem_r (ws := [Cond.code p_Reader_step.y p_Reader_step.bytes p_Reader_step.maxL p_Reader_step.ret, Cond.initialized p_Reader_step.y.cls, Cond.instanceMethod p_Reader_step.y, Cond.selects p_Reader_step.y.cls p_Reader_step.y p_Reader_step.y]) [598, 99, 597, 0] rfl (by decide +kernel)) rfl rfl (by decide +kernel) (by decide +kernel) rfl (by decide +kernel) rfl
def q_Reader_readWord : List zz_C := [(0, .aload_n 0, 1, []), (1, .iconst 1, 1, []), (2, .putfield 39, 3, [604]), (5, .aload_n 0, 1, []), (6, .getfield 32, 3, [606]), (9, .aload_n 1, 1, []), (10, .getfield 134, 3, [0]), (13, .if_icmp .ge 30, 3, [21]), (16, .aload_n 1, 1, []), (17, .aload_n 0, 1, []), (18, .getfield 32, 3, [606]), (21, .invokevirtual 124, 3, [5]), (24, .invokestatic 139, 3, [94]), (27, .ifCond .eq 16, 3, [21]), (30, .aload_n 0, 1, []), (31, .dup, 1, []), (32, .getfield 32, 3, [606]), (35, .iconst 1, 1, []), (36, .iadd, 1, []), (37, .putfield 32, 3, [606]), (40, .goto (-35), 3, [3]), (43, .return_, 1, [])]
def p_Reader_readWord : zz_P := (91, ⟨"TurnQueues$Reader", "readWord", "(LTurnQueues$Bytes;)V"⟩, prog_8_method_13_code, 2, none, q_Reader_readWord)
set_option maxRecDepth 100000 in
theorem k_Reader_readWord : zz_okP p_Reader_readWord := ⟨by decide +kernel, zz_mem_r [214, 216, 134, 216, 599, 606, 216, 216] rfl (by decide +kernel)⟩
set_option maxRecDepth 100000 in
theorem o_Reader_readWord : zz_okC p_Reader_readWord false 6 2 := zz_okV (zz_mem_r (ws := [Cond.code p_Reader_readWord.y p_Reader_readWord.bytes p_Reader_readWord.maxL p_Reader_readWord.ret, Cond.initialized p_Reader_readWord.y.cls, Cond.instanceMethod p_Reader_readWord.y, Cond.selects p_Reader_readWord.y.cls p_Reader_readWord.y p_Reader_readWord.y]) [612, 99, 611, 1] rfl (by decide +kernel)) rfl rfl (by decide +kernel) (by decide +kernel) rfl (by decide +kernel) rfl
def q_Reader_readNumber : List zz_C := [(0, .aload_n 0, 1, []), (1, .iconst 2, 1, []), (2, .putfield 39, 3, [604]), (5, .aload_n 0, 1, []), (6, .iconst 0, 1, []), (7, .putfield 100, 3, [607]), (10, .aload_n 0, 1, []), (11, .getfield 32, 3, [606]), (14, .aload_n 1, 1, []), (15, .getfield 134, 3, [0]), (18, .if_icmp .ge 59, 3, [39]), (21, .aload_n 1, 1, []), (22, .aload_n 0, 1, []), (23, .getfield 32, 3, [606]), (26, .invokevirtual 124, 3, [5]), (29, .invokestatic 145, 3, [95]), (32, .ifCond .eq 45, 3, [39]), (35, .aload_n 0, 1, []), (36, .aload_n 0, 1, []), (37, .getfield 100, 3, [607]), (40, .bipush 10, 2, []), (42, .imul, 1, []), (43, .aload_n 1, 1, []), (44, .aload_n 0, 1, []), (45, .getfield 32, 3, [606]), (48, .invokevirtual 124, 3, [5]), (51, .iadd, 1, []), (52, .bipush 48, 2, []), (54, .isub, 1, []), (55, .sipush 990, 3, []), (58, .invokestatic 151, 3, [300]), (61, .putfield 100, 3, [607]), (64, .aload_n 0, 1, []), (65, .dup, 1, []), (66, .getfield 32, 3, [606]), (69, .iconst 1, 1, []), (70, .iadd, 1, []), (71, .putfield 32, 3, [606]), (74, .goto (-64), 3, [6]), (77, .return_, 1, [])]
def p_Reader_readNumber : zz_P := (92, ⟨"TurnQueues$Reader", "readNumber", "(LTurnQueues$Bytes;)V"⟩, prog_8_method_14_code, 2, none, q_Reader_readNumber)
set_option maxRecDepth 100000 in
theorem k_Reader_readNumber : zz_okP p_Reader_readNumber := ⟨by decide +kernel, zz_mem_r [214, 217, 216, 134, 216, 599, 613, 217, 216, 599, 620, 217, 216, 216] rfl (by decide +kernel)⟩
set_option maxRecDepth 100000 in
theorem o_Reader_readNumber : zz_okC p_Reader_readNumber false 6 2 := zz_okV (zz_mem_r (ws := [Cond.code p_Reader_readNumber.y p_Reader_readNumber.bytes p_Reader_readNumber.maxL p_Reader_readNumber.ret, Cond.initialized p_Reader_readNumber.y.cls, Cond.instanceMethod p_Reader_readNumber.y, Cond.selects p_Reader_readNumber.y.cls p_Reader_readNumber.y p_Reader_readNumber.y]) [619, 99, 618, 2] rfl (by decide +kernel)) rfl rfl (by decide +kernel) (by decide +kernel) rfl (by decide +kernel) rfl
def q_Reader_isBlank : List zz_C := [(0, .iload_n 0, 1, []), (1, .bipush 32, 2, []), (3, .if_icmp .eq 9, 3, [6]), (6, .iload_n 0, 1, []), (7, .bipush 10, 2, []), (9, .if_icmp .ne 7, 3, [8]), (12, .iconst 1, 1, []), (13, .goto 4, 3, [9]), (16, .iconst 0, 1, []), (17, .ireturn, 1, [])]
def p_Reader_isBlank : zz_P := (93, ⟨"TurnQueues$Reader", "isBlank", "(I)Z"⟩, prog_8_method_15_code, 1, (some .boolean), q_Reader_isBlank)
set_option maxRecDepth 100000 in
theorem k_Reader_isBlank : zz_okP p_Reader_isBlank := ⟨by decide +kernel, zz_mem_r [] rfl (by decide +kernel)⟩
set_option maxRecDepth 100000 in
theorem o_Reader_isBlank : zz_okC p_Reader_isBlank true 0 1 := zz_okS  (zz_mem_r (ws := [Cond.code p_Reader_isBlank.y p_Reader_isBlank.bytes p_Reader_isBlank.maxL p_Reader_isBlank.ret, Cond.initialized p_Reader_isBlank.y.cls, Cond.static p_Reader_isBlank.y]) [605, 99, 604] rfl (by decide +kernel)) rfl rfl (by decide +kernel) (by decide +kernel) rfl (by decide +kernel)
def q_Reader_isLetter : List zz_C := [(0, .iload_n 0, 1, []), (1, .bipush 97, 2, []), (3, .if_icmp .lt 13, 3, [8]), (6, .iload_n 0, 1, []), (7, .bipush 122, 2, []), (9, .if_icmp .gt 7, 3, [8]), (12, .iconst 1, 1, []), (13, .goto 4, 3, [9]), (16, .iconst 0, 1, []), (17, .ireturn, 1, [])]
def p_Reader_isLetter : zz_P := (94, ⟨"TurnQueues$Reader", "isLetter", "(I)Z"⟩, prog_8_method_16_code, 1, (some .boolean), q_Reader_isLetter)
set_option maxRecDepth 100000 in
theorem k_Reader_isLetter : zz_okP p_Reader_isLetter := ⟨by decide +kernel, zz_mem_r [] rfl (by decide +kernel)⟩
set_option maxRecDepth 100000 in
theorem o_Reader_isLetter : zz_okC p_Reader_isLetter true 0 1 := zz_okS  (zz_mem_r (ws := [Cond.code p_Reader_isLetter.y p_Reader_isLetter.bytes p_Reader_isLetter.maxL p_Reader_isLetter.ret, Cond.initialized p_Reader_isLetter.y.cls, Cond.static p_Reader_isLetter.y]) [608, 99, 607] rfl (by decide +kernel)) rfl rfl (by decide +kernel) (by decide +kernel) rfl (by decide +kernel)
def q_Reader_isDigit : List zz_C := [(0, .iload_n 0, 1, []), (1, .bipush 48, 2, []), (3, .if_icmp .lt 13, 3, [8]), (6, .iload_n 0, 1, []), (7, .bipush 57, 2, []), (9, .if_icmp .gt 7, 3, [8]), (12, .iconst 1, 1, []), (13, .goto 4, 3, [9]), (16, .iconst 0, 1, []), (17, .ireturn, 1, [])]
def p_Reader_isDigit : zz_P := (95, ⟨"TurnQueues$Reader", "isDigit", "(I)Z"⟩, prog_8_method_17_code, 1, (some .boolean), q_Reader_isDigit)
set_option maxRecDepth 100000 in
theorem k_Reader_isDigit : zz_okP p_Reader_isDigit := ⟨by decide +kernel, zz_mem_r [] rfl (by decide +kernel)⟩
set_option maxRecDepth 100000 in
theorem o_Reader_isDigit : zz_okC p_Reader_isDigit true 0 1 := zz_okS  (zz_mem_r (ws := [Cond.code p_Reader_isDigit.y p_Reader_isDigit.bytes p_Reader_isDigit.maxL p_Reader_isDigit.ret, Cond.initialized p_Reader_isDigit.y.cls, Cond.static p_Reader_isDigit.y]) [615, 99, 614] rfl (by decide +kernel)) rfl rfl (by decide +kernel) (by decide +kernel) rfl (by decide +kernel)
end
section
/-! the code of the methods, printed by program -/
def q_Row_become : List zz_C := [(0, .aload_n 0, 1, []), (1, .aload_n 1, 1, []), (2, .getfield 9, 3, [700]), (5, .putfield 9, 3, [700]), (8, .aload_n 0, 1, []), (9, .aload_n 1, 1, []), (10, .getfield 15, 3, [701]), (13, .putfield 15, 3, [701]), (16, .return_, 1, [])]
def p_Row_become : zz_P := (97, ⟨"TurnQueues$Row", "become", "(LTurnQueues$Row;)V"⟩, prog_9_method_2_code, 2, none, q_Row_become)
set_option maxRecDepth 100000 in
theorem k_Row_become : zz_okP p_Row_become := ⟨by decide +kernel, zz_mem_r [323, 323, 327, 327] rfl (by decide +kernel)⟩
set_option maxRecDepth 100000 in
theorem o_Row_become : zz_okC p_Row_become false 7 2 := zz_okV (zz_mem_r (ws := [Cond.code p_Row_become.y p_Row_become.bytes p_Row_become.maxL p_Row_become.ret, Cond.initialized p_Row_become.y.cls, Cond.instanceMethod p_Row_become.y, Cond.selects p_Row_become.y.cls p_Row_become.y p_Row_become.y]) [785, 105, 783, 784] rfl (by decide +kernel)) rfl rfl (by decide +kernel) (by decide +kernel) rfl (by decide +kernel) rfl
def q_Row_clear : List zz_C := [(0, .aload_n 0, 1, []), (1, .iconst (-1), 1, []), (2, .putfield 9, 3, [700]), (5, .aload_n 0, 1, []), (6, .iconst 0, 1, []), (7, .putfield 15, 3, [701]), (10, .return_, 1, [])]
def p_Row_clear : zz_P := (98, ⟨"TurnQueues$Row", "clear", "()V"⟩, prog_9_method_3_code, 1, none, q_Row_clear)
set_option maxRecDepth 100000 in
theorem k_Row_clear : zz_okP p_Row_clear := ⟨by decide +kernel, zz_mem_r [323, 327] rfl (by decide +kernel)⟩
set_option maxRecDepth 100000 in
theorem o_Row_clear : zz_okC p_Row_clear false 7 1 := zz_okV (zz_mem_r (ws := [Cond.code p_Row_clear.y p_Row_clear.bytes p_Row_clear.maxL p_Row_clear.ret, Cond.initialized p_Row_clear.y.cls, Cond.instanceMethod p_Row_clear.y, Cond.selects p_Row_clear.y.cls p_Row_clear.y p_Row_clear.y]) [834, 105, 832, 833] rfl (by decide +kernel)) rfl rfl (by decide +kernel) (by decide +kernel) rfl (by decide +kernel) rfl
end
section
/-! the code of the methods, printed by program -/
def q_Scout_tryAll : List zz_C := [(0, .aload_n 0, 1, []), (1, .getfield 26, 3, [807]), (4, .aload_n 1, 1, []), (5, .getfield 37, 3, [201]), (8, .aload_n 1, 1, []), (9, .getfield 43, 3, [202]), (12, .invokevirtual 46, 3, [59]), (15, .aload_n 0, 1, []), (16, .getfield 32, 3, [808]), (19, .iconst 0, 1, []), (20, .aaload, 1, []), (21, .aload_n 2, 1, []), (22, .invokevirtual 49, 3, [108]), (25, .aload_n 0, 1, []), (26, .iload_n 3, 1, []), (27, .bipush 6, 2, []), (29, .invokestatic 53, 3, [300]), (32, .putfield 59, 3, [803]), (35, .aload_n 0, 1, []), (36, .iconst 0, 1, []), (37, .putfield 62, 3, [800]), (40, .aload_n 0, 1, []), (41, .iconst 0, 1, []), (42, .putfield 65, 3, [801]), (45, .aload_n 0, 1, []), (46, .iconst 0, 1, []), (47, .putfield 68, 3, [802]), (50, .iconst 0, 1, []), (51, .istore 4, 2, []), (53, .iload 4, 2, []), (55, .bipush 6, 2, []), (57, .if_icmp .ge 17, 3, [39]), (60, .aload_n 0, 1, []), (61, .getfield 18, 3, [806]), (64, .iload 4, 2, []), (66, .iconst 0, 1, []), (67, .iastore, 1, []), (68, .iinc 4 1, 3, []), (71, .goto (-18), 3, [29]), (74, .aload_n 0, 1, []), (75, .iconst 0, 1, []), (76, .iconst 0, 1, []), (77, .invokestatic 71, 3, [101]), (80, .return_, 1, [])]
def p_Scout_tryAll : zz_P := (100, ⟨"TurnQueues$Scout", "tryAll", "(LTurnQueues$Deeds;LTurnQueues$State;I)V"⟩, prog_10_method_2_code, 5, none, q_Scout_tryAll)
set_option maxRecDepth 100000 in
theorem k_Scout_tryAll : zz_okP p_Scout_tryAll := ⟨by decide +kernel, zz_mem_r [521, 159, 165, 1209, 522, 1210, 1211, 517, 511, 513, 515, 520, 1212] rfl (by decide +kernel)⟩
set_option maxRecDepth 100000 in
theorem o_Scout_tryAll : zz_okC p_Scout_tryAll false 8 4 := zz_okV (zz_mem_r (ws := [Cond.code p_Scout_tryAll.y p_Scout_tryAll.bytes p_Scout_tryAll.maxL p_Scout_tryAll.ret, Cond.initialized p_Scout_tryAll.y.cls, Cond.instanceMethod p_Scout_tryAll.y, Cond.selects p_Scout_tryAll.y.cls p_Scout_tryAll.y p_Scout_tryAll.y]) [1208, 108, 1206, 1207] rfl (by decide +kernel)) rfl rfl (by decide +kernel) (by decide +kernel) rfl (by decide +kernel) rfl
def q_Scout_tryFrom : List zz_C := [(0, .iload_n 1, 1, []), (1, .ifCond .lt 17, 3, [9]), (4, .iload_n 1, 1, []), (5, .aload_n 0, 1, []), (6, .getfield 59, 3, [803]), (9, .if_icmp .ge 9, 3, [9]), (12, .iload_n 1, 1, []), (13, .bipush 6, 2, []), (15, .if_icmp .lt 9, 3, [13]), (18, .aload_n 0, 1, []), (19, .iload_n 2, 1, []), (20, .invokevirtual 75, 3, [103]), (23, .return_, 1, []), (24, .aload_n 0, 1, []), (25, .getfield 32, 3, [808]), (28, .iload_n 1, 1, []), (29, .aaload, 1, []), (30, .astore_n 3, 1, []), (31, .aload_n 0, 1, []), (32, .getfield 32, 3, [808]), (35, .iload_n 1, 1, []), (36, .iconst 1, 1, []), (37, .iadd, 1, []), (38, .aaload, 1, []), (39, .astore 4, 2, []), (41, .aload_n 3, 1, []), (42, .getfield 79, 3, [906]), (45, .ifCond .le 7, 3, [30]), (48, .iconst 2, 1, []), (49, .goto 4, 3, [31]), (52, .iconst 1, 1, []), (53, .istore 5, 2, []), (55, .iconst 0, 1, []), (56, .istore 6, 2, []), (58, .iload 6, 2, []), (60, .iconst 0, 1, []), (61, .iload 5, 2, []), (63, .iadd, 1, []), (64, .if_icmp .ge 50, 3, [65]), (67, .aload 4, 2, []), (69, .aload_n 3, 1, []), (70, .invokevirtual 49, 3, [108]), (73, .aload_n 0, 1, []), (74, .getfield 26, 3, [807]), (77, .aload 4, 2, []), (79, .iload 6, 2, []), (81, .iconst 0, 1, []), (82, .iconst (-1), 1, []), (83, .invokevirtual 82, 3, [60]), (86, .istore 7, 2, []), (88, .aload_n 0, 1, []), (89, .iload_n 1, 1, []), (90, .iload 6, 2, []), (92, .iload 7, 2, []), (94, .invokevirtual 86, 3, [102]), (97, .aload_n 0, 1, []), (98, .iload_n 1, 1, []), (99, .iconst 1, 1, []), (100, .iadd, 1, []), (101, .iload_n 2, 1, []), (102, .iload 7, 2, []), (104, .iadd, 1, []), (105, .invokestatic 71, 3, [101]), (108, .iinc 6 1, 3, []), (111, .goto (-53), 3, [34]), (114, .return_, 1, [])]
def p_Scout_tryFrom : zz_P := (101, ⟨"TurnQueues$Scout", "tryFrom", "(LTurnQueues$Scout;II)V"⟩, prog_10_method_3_code, 8, none, q_Scout_tryFrom)
set_option maxRecDepth 100000 in
theorem k_Scout_tryFrom : zz_okP p_Scout_tryFrom := ⟨by decide +kernel, zz_mem_r [517, 1215, 522, 522, 363, 1210, 521, 1219, 1220, 1212] rfl (by decide +kernel)⟩
set_option maxRecDepth 100000 in
theorem o_Scout_tryFrom : zz_okC p_Scout_tryFrom true 0 3 := zz_okS  (zz_mem_r (ws := [Cond.code p_Scout_tryFrom.y p_Scout_tryFrom.bytes p_Scout_tryFrom.maxL p_Scout_tryFrom.ret, Cond.initialized p_Scout_tryFrom.y.cls, Cond.static p_Scout_tryFrom.y]) [1214, 108, 1213] rfl (by decide +kernel)) rfl rfl (by decide +kernel) (by decide +kernel) rfl (by decide +kernel)
def q_Scout_noteDeed : List zz_C := [(0, .aload_n 0, 1, []), (1, .aload_n 0, 1, []), (2, .getfield 62, 3, [800]), (5, .iload_n 3, 1, []), (6, .invokestatic 90, 3, [299]), (9, .putfield 62, 3, [800]), (12, .iload_n 1, 1, []), (13, .ifCond .lt 32, 3, [26]), (16, .iload_n 1, 1, []), (17, .bipush 6, 2, []), (19, .if_icmp .ge 26, 3, [26]), (22, .aload_n 0, 1, []), (23, .getfield 9, 3, [804]), (26, .iload_n 1, 1, []), (27, .iload_n 2, 1, []), (28, .iastore, 1, []), (29, .aload_n 0, 1, []), (30, .getfield 18, 3, [806]), (33, .iload_n 1, 1, []), (34, .aload_n 0, 1, []), (35, .getfield 18, 3, [806]), (38, .iload_n 1, 1, []), (39, .iaload, 1, []), (40, .iload_n 3, 1, []), (41, .invokestatic 90, 3, [299]), (44, .iastore, 1, []), (45, .return_, 1, [])]
def p_Scout_noteDeed : zz_P := (102, ⟨"TurnQueues$Scout", "noteDeed", "(III)V"⟩, prog_10_method_4_code, 4, none, q_Scout_noteDeed)
set_option maxRecDepth 100000 in
theorem k_Scout_noteDeed : zz_okP p_Scout_noteDeed := ⟨by decide +kernel, zz_mem_r [511, 1224, 511, 518, 520, 520, 1224] rfl (by decide +kernel)⟩
set_option maxRecDepth 100000 in
theorem o_Scout_noteDeed : zz_okC p_Scout_noteDeed false 8 4 := zz_okV (zz_mem_r (ws := [Cond.code p_Scout_noteDeed.y p_Scout_noteDeed.bytes p_Scout_noteDeed.maxL p_Scout_noteDeed.ret, Cond.initialized p_Scout_noteDeed.y.cls, Cond.instanceMethod p_Scout_noteDeed.y, Cond.selects p_Scout_noteDeed.y.cls p_Scout_noteDeed.y p_Scout_noteDeed.y]) [1223, 108, 1222, 32] rfl (by decide +kernel)) rfl rfl (by decide +kernel) (by decide +kernel) rfl (by decide +kernel) rfl
def q_Scout_noteRow : List zz_C := [(0, .aload_n 0, 1, []), (1, .dup, 1, []), (2, .getfield 68, 3, [802]), (5, .iconst 1, 1, []), (6, .iadd, 1, []), (7, .putfield 68, 3, [802]), (10, .iload_n 1, 1, []), (11, .aload_n 0, 1, []), (12, .getfield 65, 3, [801]), (15, .if_icmp .le 36, 3, [29]), (18, .aload_n 0, 1, []), (19, .iload_n 1, 1, []), (20, .putfield 65, 3, [801]), (23, .iconst 0, 1, []), (24, .istore_n 2, 1, []), (25, .iload_n 2, 1, []), (26, .aload_n 0, 1, []), (27, .getfield 59, 3, [803]), (30, .if_icmp .ge 21, 3, [29]), (33, .aload_n 0, 1, []), (34, .getfield 15, 3, [805]), (37, .iload_n 2, 1, []), (38, .aload_n 0, 1, []), (39, .getfield 9, 3, [804]), (42, .iload_n 2, 1, []), (43, .iaload, 1, []), (44, .iastore, 1, []), (45, .iinc 2 1, 3, []), (48, .goto (-23), 3, [15]), (51, .return_, 1, [])]
def p_Scout_noteRow : zz_P := (103, ⟨"TurnQueues$Scout", "noteRow", "(I)V"⟩, prog_10_method_5_code, 3, none, q_Scout_noteRow)
set_option maxRecDepth 100000 in
theorem k_Scout_noteRow : zz_okP p_Scout_noteRow := ⟨by decide +kernel, zz_mem_r [515, 515, 513, 513, 517, 519, 518] rfl (by decide +kernel)⟩
set_option maxRecDepth 100000 in
theorem o_Scout_noteRow : zz_okC p_Scout_noteRow false 8 2 := zz_okV (zz_mem_r (ws := [Cond.code p_Scout_noteRow.y p_Scout_noteRow.bytes p_Scout_noteRow.maxL p_Scout_noteRow.ret, Cond.initialized p_Scout_noteRow.y.cls, Cond.instanceMethod p_Scout_noteRow.y, Cond.selects p_Scout_noteRow.y.cls p_Scout_noteRow.y p_Scout_noteRow.y]) [1218, 108, 1217, 31] rfl (by decide +kernel)) rfl rfl (by decide +kernel) (by decide +kernel) rfl (by decide +kernel) rfl
def q_Scout_worstKind : List zz_C := [(0, .iload_n 1, 1, []), (1, .ifCond .lt 26, 3, [14]), (4, .iload_n 1, 1, []), (5, .aload_n 0, 1, []), (6, .getfield 59, 3, [803]), (9, .if_icmp .ge 18, 3, [14]), (12, .iload_n 1, 1, []), (13, .bipush 6, 2, []), (15, .if_icmp .ge 12, 3, [14]), (18, .aload_n 0, 1, []), (19, .getfield 15, 3, [805]), (22, .iload_n 1, 1, []), (23, .iaload, 1, []), (24, .goto 4, 3, [15]), (27, .iconst (-1), 1, []), (28, .ireturn, 1, [])]
def p_Scout_worstKind : zz_P := (104, ⟨"TurnQueues$Scout", "worstKind", "(I)I"⟩, prog_10_method_6_code, 2, (some .int), q_Scout_worstKind)
set_option maxRecDepth 100000 in
theorem k_Scout_worstKind : zz_okP p_Scout_worstKind := ⟨by decide +kernel, zz_mem_r [517, 519] rfl (by decide +kernel)⟩
set_option maxRecDepth 100000 in
theorem o_Scout_worstKind : zz_okC p_Scout_worstKind false 8 2 := zz_okV (zz_mem_r (ws := [Cond.code p_Scout_worstKind.y p_Scout_worstKind.bytes p_Scout_worstKind.maxL p_Scout_worstKind.ret, Cond.initialized p_Scout_worstKind.y.cls, Cond.instanceMethod p_Scout_worstKind.y, Cond.selects p_Scout_worstKind.y.cls p_Scout_worstKind.y p_Scout_worstKind.y]) [1232, 108, 1230, 1231] rfl (by decide +kernel)) rfl rfl (by decide +kernel) (by decide +kernel) rfl (by decide +kernel) rfl
def q_Scout_fewestFor : List zz_C := [(0, .iconst 0, 1, []), (1, .istore_n 2, 1, []), (2, .iload_n 2, 1, []), (3, .bipush 6, 2, []), (5, .if_icmp .ge 23, 3, [17]), (8, .aload_n 0, 1, []), (9, .getfield 18, 3, [806]), (12, .iload_n 2, 1, []), (13, .iaload, 1, []), (14, .iload_n 1, 1, []), (15, .if_icmp .lt 7, 3, [15]), (18, .iload_n 2, 1, []), (19, .iconst 1, 1, []), (20, .iadd, 1, []), (21, .ireturn, 1, []), (22, .iinc 2 1, 3, []), (25, .goto (-23), 3, [2]), (28, .iconst (-1), 1, []), (29, .ireturn, 1, [])]
def p_Scout_fewestFor : zz_P := (105, ⟨"TurnQueues$Scout", "fewestFor", "(I)I"⟩, prog_10_method_7_code, 3, (some .int), q_Scout_fewestFor)
set_option maxRecDepth 100000 in
theorem k_Scout_fewestFor : zz_okP p_Scout_fewestFor := ⟨by decide +kernel, zz_mem_r [520] rfl (by decide +kernel)⟩
set_option maxRecDepth 100000 in
theorem o_Scout_fewestFor : zz_okC p_Scout_fewestFor false 8 2 := zz_okV (zz_mem_r (ws := [Cond.code p_Scout_fewestFor.y p_Scout_fewestFor.bytes p_Scout_fewestFor.maxL p_Scout_fewestFor.ret, Cond.initialized p_Scout_fewestFor.y.cls, Cond.instanceMethod p_Scout_fewestFor.y, Cond.selects p_Scout_fewestFor.y.cls p_Scout_fewestFor.y p_Scout_fewestFor.y]) [1240, 108, 1238, 1239] rfl (by decide +kernel)) rfl rfl (by decide +kernel) (by decide +kernel) rfl (by decide +kernel) rfl
end
section
/-! the code of the methods, printed by program -/
def q_State_clearTurn : List zz_C := [(0, .aload_n 0, 1, []), (1, .getfield 21, 3, [902]), (4, .invokevirtual 33, 3, [98]), (7, .aload_n 0, 1, []), (8, .getfield 24, 3, [903]), (11, .invokevirtual 33, 3, [98]), (14, .aload_n 0, 1, []), (15, .getfield 27, 3, [904]), (18, .invokevirtual 33, 3, [98]), (21, .aload_n 0, 1, []), (22, .getfield 30, 3, [905]), (25, .invokevirtual 33, 3, [98]), (28, .aload_n 0, 1, []), (29, .iconst 0, 1, []), (30, .putfield 36, 3, [908]), (33, .aload_n 0, 1, []), (34, .iconst 0, 1, []), (35, .putfield 40, 3, [909]), (38, .return_, 1, [])]
def p_State_clearTurn : zz_P := (107, ⟨"TurnQueues$State", "clearTurn", "()V"⟩, prog_11_method_2_code, 1, none, q_State_clearTurn)
set_option maxRecDepth 100000 in
theorem k_State_clearTurn : zz_okP p_State_clearTurn := ⟨by decide +kernel, zz_mem_r [347, 831, 351, 831, 355, 831, 359, 831, 370, 374] rfl (by decide +kernel)⟩
set_option maxRecDepth 100000 in
theorem o_State_clearTurn : zz_okC p_State_clearTurn false 9 1 := zz_okV (zz_mem_r (ws := [Cond.code p_State_clearTurn.y p_State_clearTurn.bytes p_State_clearTurn.maxL p_State_clearTurn.ret, Cond.initialized p_State_clearTurn.y.cls, Cond.instanceMethod p_State_clearTurn.y, Cond.selects p_State_clearTurn.y.cls p_State_clearTurn.y p_State_clearTurn.y]) [830, 104, 828, 829] rfl (by decide +kernel)) rfl rfl (by decide +kernel) (by decide +kernel) rfl (by decide +kernel) rfl
def q_State_become : List zz_C := [(0, .aload_n 0, 1, []), (1, .getfield 12, 3, [900]), (4, .aload_n 1, 1, []), (5, .getfield 12, 3, [900]), (8, .invokevirtual 43, 3, [97]), (11, .aload_n 0, 1, []), (12, .getfield 18, 3, [901]), (15, .aload_n 1, 1, []), (16, .getfield 18, 3, [901]), (19, .invokevirtual 43, 3, [97]), (22, .aload_n 0, 1, []), (23, .getfield 21, 3, [902]), (26, .aload_n 1, 1, []), (27, .getfield 21, 3, [902]), (30, .invokevirtual 43, 3, [97]), (33, .aload_n 0, 1, []), (34, .getfield 24, 3, [903]), (37, .aload_n 1, 1, []), (38, .getfield 24, 3, [903]), (41, .invokevirtual 43, 3, [97]), (44, .aload_n 0, 1, []), (45, .getfield 27, 3, [904]), (48, .aload_n 1, 1, []), (49, .getfield 27, 3, [904]), (52, .invokevirtual 43, 3, [97]), (55, .aload_n 0, 1, []), (56, .getfield 30, 3, [905]), (59, .aload_n 1, 1, []), (60, .getfield 30, 3, [905]), (63, .invokevirtual 43, 3, [97]), (66, .aload_n 0, 1, []), (67, .aload_n 1, 1, []), (68, .getfield 47, 3, [906]), (71, .putfield 47, 3, [906]), (74, .aload_n 0, 1, []), (75, .aload_n 1, 1, []), (76, .getfield 50, 3, [907]), (79, .putfield 50, 3, [907]), (82, .aload_n 0, 1, []), (83, .aload_n 1, 1, []), (84, .getfield 36, 3, [908]), (87, .putfield 36, 3, [908]), (90, .aload_n 0, 1, []), (91, .aload_n 1, 1, []), (92, .getfield 40, 3, [909]), (95, .putfield 40, 3, [909]), (98, .aload_n 0, 1, []), (99, .aload_n 1, 1, []), (100, .getfield 53, 3, [910]), (103, .putfield 53, 3, [910]), (106, .aload_n 0, 1, []), (107, .aload_n 1, 1, []), (108, .getfield 56, 3, [911]), (111, .putfield 56, 3, [911]), (114, .return_, 1, [])]
def p_State_become : zz_P := (108, ⟨"TurnQueues$State", "become", "(LTurnQueues$State;)V"⟩, prog_11_method_3_code, 2, none, q_State_become)
set_option maxRecDepth 100000 in
theorem k_State_become : zz_okP p_State_become := ⟨by decide +kernel, zz_mem_r [338, 338, 782, 343, 343, 782, 347, 347, 782, 351, 351, 782, 355, 355, 782, 359, 359, 782, 364, 364, 367, 367, 370, 370, 374, 374, 378, 378, 382, 382] rfl (by decide +kernel)⟩
set_option maxRecDepth 100000 in
theorem o_State_become : zz_okC p_State_become false 9 2 := zz_okV (zz_mem_r (ws := [Cond.code p_State_become.y p_State_become.bytes p_State_become.maxL p_State_become.ret, Cond.initialized p_State_become.y.cls, Cond.instanceMethod p_State_become.y, Cond.selects p_State_become.y.cls p_State_become.y p_State_become.y]) [781, 104, 779, 780] rfl (by decide +kernel)) rfl rfl (by decide +kernel) (by decide +kernel) rfl (by decide +kernel) rfl
def q_State_isAtRest : List zz_C := [(0, .aload_n 0, 1, []), (1, .getfield 36, 3, [908]), (4, .ifCond .ne 21, 3, [11]), (7, .aload_n 0, 1, []), (8, .getfield 53, 3, [910]), (11, .ifCond .ne 14, 3, [11]), (14, .aload_n 0, 1, []), (15, .getfield 56, 3, [911]), (18, .ifCond .ne 7, 3, [11]), (21, .iconst 1, 1, []), (22, .goto 4, 3, [12]), (25, .iconst 0, 1, []), (26, .ireturn, 1, [])]
def p_State_isAtRest : zz_P := (109, ⟨"TurnQueues$State", "isAtRest", "()Z"⟩, prog_11_method_4_code, 1, (some .boolean), q_State_isAtRest)
set_option maxRecDepth 100000 in
theorem k_State_isAtRest : zz_okP p_State_isAtRest := ⟨by decide +kernel, zz_mem_r [370, 378, 382] rfl (by decide +kernel)⟩
set_option maxRecDepth 100000 in
theorem o_State_isAtRest : zz_okC p_State_isAtRest false 9 1 := zz_okV (zz_mem_r (ws := [Cond.code p_State_isAtRest.y p_State_isAtRest.bytes p_State_isAtRest.maxL p_State_isAtRest.ret, Cond.initialized p_State_isAtRest.y.cls, Cond.instanceMethod p_State_isAtRest.y, Cond.selects p_State_isAtRest.y.cls p_State_isAtRest.y p_State_isAtRest.y]) [1200, 104, 1198, 1199] rfl (by decide +kernel)) rfl rfl (by decide +kernel) (by decide +kernel) rfl (by decide +kernel) rfl
def q_State_rowNumbered : List zz_C := [(0, .iload_n 1, 1, []), (1, .tableswitch 69 0 5 #[39, 44, 49, 54, 59, 64], 39, [20, 2, 5, 8, 11, 14, 17]), (40, .aload_n 0, 1, []), (41, .getfield 12, 3, [900]), (44, .areturn, 1, []), (45, .aload_n 0, 1, []), (46, .getfield 18, 3, [901]), (49, .areturn, 1, []), (50, .aload_n 0, 1, []), (51, .getfield 21, 3, [902]), (54, .areturn, 1, []), (55, .aload_n 0, 1, []), (56, .getfield 24, 3, [903]), (59, .areturn, 1, []), (60, .aload_n 0, 1, []), (61, .getfield 27, 3, [904]), (64, .areturn, 1, []), (65, .aload_n 0, 1, []), (66, .getfield 30, 3, [905]), (69, .areturn, 1, []), (70, .aconst_null, 1, []), (71, .areturn, 1, [])]
def p_State_rowNumbered : zz_P := (110, ⟨"TurnQueues$State", "rowNumbered", "(I)LTurnQueues$Row;"⟩, prog_11_method_5_code, 2, (some (.object "TurnQueues$Row")), q_State_rowNumbered)
set_option maxRecDepth 100000 in
theorem k_State_rowNumbered : zz_okP p_State_rowNumbered := ⟨by decide +kernel, zz_mem_r [338, 343, 347, 351, 355, 359] rfl (by decide +kernel)⟩
set_option maxRecDepth 100000 in
theorem o_State_rowNumbered : zz_okC p_State_rowNumbered false 9 2 := zz_okV (zz_mem_r (ws := [Cond.code p_State_rowNumbered.y p_State_rowNumbered.bytes p_State_rowNumbered.maxL p_State_rowNumbered.ret, Cond.initialized p_State_rowNumbered.y.cls, Cond.instanceMethod p_State_rowNumbered.y, Cond.selects p_State_rowNumbered.y.cls p_State_rowNumbered.y p_State_rowNumbered.y]) [960, 104, 958, 959] rfl (by decide +kernel)) rfl rfl (by decide +kernel) (by decide +kernel) rfl (by decide +kernel) rfl
end
section
/-! the code of the methods, printed by program -/
def q_Trial_begin : List zz_C := [(0, .aload_n 0, 1, []), (1, .getfield 25, 3, [1004]), (4, .aload_n 1, 1, []), (5, .getfield 40, 3, [201]), (8, .aload_n 1, 1, []), (9, .getfield 46, 3, [202]), (12, .invokevirtual 49, 3, [59]), (15, .aload_n 0, 1, []), (16, .getfield 32, 3, [1005]), (19, .aload_n 2, 1, []), (20, .invokevirtual 52, 3, [108]), (23, .aload_n 0, 1, []), (24, .iconst 0, 1, []), (25, .putfield 56, 3, [1001]), (28, .return_, 1, [])]
def p_Trial_begin : zz_P := (112, ⟨"TurnQueues$Trial", "begin", "(LTurnQueues$Deeds;LTurnQueues$State;)V"⟩, prog_12_method_2_code, 3, none, q_Trial_begin)
set_option maxRecDepth 100000 in
theorem k_Trial_begin : zz_okP p_Trial_begin := ⟨by decide +kernel, zz_mem_r [483, 158, 164, 1154, 484, 1157, 477] rfl (by decide +kernel)⟩
set_option maxRecDepth 100000 in
theorem o_Trial_begin : zz_okC p_Trial_begin false 10 3 := zz_okV (zz_mem_r (ws := [Cond.code p_Trial_begin.y p_Trial_begin.bytes p_Trial_begin.maxL p_Trial_begin.ret, Cond.initialized p_Trial_begin.y.cls, Cond.instanceMethod p_Trial_begin.y, Cond.selects p_Trial_begin.y.cls p_Trial_begin.y p_Trial_begin.y]) [1188, 107, 1187, 30] rfl (by decide +kernel)) rfl rfl (by decide +kernel) (by decide +kernel) rfl (by decide +kernel) rfl
def q_Trial_stepsOfAll : List zz_C := [(0, .aload_n 0, 1, []), (1, .getfield 25, 3, [1004]), (4, .iload_n 2, 1, []), (5, .iload_n 3, 1, []), (6, .invokevirtual 49, 3, [59]), (9, .aload_n 0, 1, []), (10, .iconst 0, 1, []), (11, .putfield 59, 3, [1000]), (14, .iconst 0, 1, []), (15, .istore 4, 2, []), (17, .iconst 0, 1, []), (18, .istore 5, 2, []), (20, .aload_n 1, 1, []), (21, .iload 5, 2, []), (23, .invokevirtual 62, 3, [25]), (26, .ifCond .eq 91, 3, [62]), (29, .aload_n 1, 1, []), (30, .aload_n 1, 1, []), (31, .getfield 66, 3, [206]), (34, .iload 5, 2, []), (36, .iaload, 1, []), (37, .invokevirtual 70, 3, [24]), (40, .ifCond .eq 77, 3, [62]), (43, .aload_n 0, 1, []), (44, .getfield 36, 3, [1006]), (47, .iload 5, 2, []), (49, .iconst 1, 1, []), (50, .iadd, 1, []), (51, .aaload, 1, []), (52, .astore 6, 2, []), (54, .aload 6, 2, []), (56, .aload_n 0, 1, []), (57, .getfield 36, 3, [1006]), (60, .aload_n 1, 1, []), (61, .getfield 66, 3, [206]), (64, .iload 5, 2, []), (66, .iaload, 1, []), (67, .aaload, 1, []), (68, .invokevirtual 52, 3, [108]), (71, .aload_n 0, 1, []), (72, .getfield 25, 3, [1004]), (75, .aload 6, 2, []), (77, .aload_n 1, 1, []), (78, .getfield 73, 3, [205]), (81, .iload 5, 2, []), (83, .iaload, 1, []), (84, .iconst 0, 1, []), (85, .iconst (-1), 1, []), (86, .invokevirtual 76, 3, [60]), (89, .istore 7, 2, []), (91, .aload_n 0, 1, []), (92, .aload_n 0, 1, []), (93, .getfield 59, 3, [1000]), (96, .iload 7, 2, []), (98, .invokestatic 80, 3, [299]), (101, .putfield 59, 3, [1000]), (104, .iload 4, 2, []), (106, .iload 7, 2, []), (108, .iadd, 1, []), (109, .istore 4, 2, []), (111, .iinc 5 1, 3, []), (114, .goto (-94), 3, [12]), (117, .iload 4, 2, []), (119, .ireturn, 1, [])]
def p_Trial_stepsOfAll : zz_P := (113, ⟨"TurnQueues$Trial", "stepsOfAll", "(LTurnQueues$Deeds;II)I"⟩, prog_12_method_3_code, 8, (some .int), q_Trial_stepsOfAll)
set_option maxRecDepth 100000 in
theorem k_Trial_stepsOfAll : zz_okP p_Trial_stepsOfAll := ⟨by decide +kernel, zz_mem_r [483, 1154, 475, 1155, 183, 1156, 485, 485, 183, 1157, 483, 178, 1158, 475, 1159, 475] rfl (by decide +kernel)⟩
set_option maxRecDepth 100000 in
theorem o_Trial_stepsOfAll : zz_okC p_Trial_stepsOfAll false 10 4 := zz_okV (zz_mem_r (ws := [Cond.code p_Trial_stepsOfAll.y p_Trial_stepsOfAll.bytes p_Trial_stepsOfAll.maxL p_Trial_stepsOfAll.ret, Cond.initialized p_Trial_stepsOfAll.y.cls, Cond.instanceMethod p_Trial_stepsOfAll.y, Cond.selects p_Trial_stepsOfAll.y.cls p_Trial_stepsOfAll.y p_Trial_stepsOfAll.y]) [1153, 107, 1151, 1152] rfl (by decide +kernel)) rfl rfl (by decide +kernel) (by decide +kernel) rfl (by decide +kernel) rfl
def q_Trial_cheapestRatio : List zz_C := [(0, .iconst 2, 1, []), (1, .istore_n 2, 1, []), (2, .aload_n 0, 1, []), (3, .aload_n 1, 1, []), (4, .iconst 2, 1, []), (5, .iconst 2, 1, []), (6, .invokevirtual 86, 3, [113]), (9, .istore_n 3, 1, []), (10, .iconst 3, 1, []), (11, .istore 4, 2, []), (13, .iload 4, 2, []), (15, .iconst 4, 1, []), (16, .if_icmp .gt 31, 3, [28]), (19, .aload_n 0, 1, []), (20, .aload_n 1, 1, []), (21, .iconst 2, 1, []), (22, .iload 4, 2, []), (24, .invokevirtual 86, 3, [113]), (27, .istore 5, 2, []), (29, .iload 5, 2, []), (31, .iload_n 3, 1, []), (32, .if_icmp .ge 9, 3, [26]), (35, .iload 5, 2, []), (37, .istore_n 3, 1, []), (38, .iload 4, 2, []), (40, .istore_n 2, 1, []), (41, .iinc 4 1, 3, []), (44, .goto (-31), 3, [10]), (47, .iload_n 2, 1, []), (48, .ireturn, 1, [])]
def p_Trial_cheapestRatio : zz_P := (114, ⟨"TurnQueues$Trial", "cheapestRatio", "(LTurnQueues$Deeds;)I"⟩, prog_12_method_4_code, 6, (some .int), q_Trial_cheapestRatio)
set_option maxRecDepth 100000 in
theorem k_Trial_cheapestRatio : zz_okP p_Trial_cheapestRatio := ⟨by decide +kernel, zz_mem_r [1176, 1176] rfl (by decide +kernel)⟩
set_option maxRecDepth 100000 in
theorem o_Trial_cheapestRatio : zz_okC p_Trial_cheapestRatio false 10 2 := zz_okV (zz_mem_r (ws := [Cond.code p_Trial_cheapestRatio.y p_Trial_cheapestRatio.bytes p_Trial_cheapestRatio.maxL p_Trial_cheapestRatio.ret, Cond.initialized p_Trial_cheapestRatio.y.cls, Cond.instanceMethod p_Trial_cheapestRatio.y, Cond.selects p_Trial_cheapestRatio.y.cls p_Trial_cheapestRatio.y p_Trial_cheapestRatio.y]) [1175, 107, 1173, 1174] rfl (by decide +kernel)) rfl rfl (by decide +kernel) (by decide +kernel) rfl (by decide +kernel) rfl
def q_Trial_putsTillTurned : List zz_C := [(0, .aload_n 0, 1, []), (1, .aload_n 1, 1, []), (2, .aload_n 2, 1, []), (3, .invokevirtual 90, 3, [112]), (6, .iconst 1, 1, []), (7, .istore_n 3, 1, []), (8, .iload_n 3, 1, []), (9, .bipush 40, 2, []), (11, .if_icmp .gt 36, 3, [26]), (14, .aload_n 0, 1, []), (15, .getfield 25, 3, [1004]), (18, .aload_n 0, 1, []), (19, .getfield 32, 3, [1005]), (22, .iconst 0, 1, []), (23, .iconst 0, 1, []), (24, .iconst (-1), 1, []), (25, .invokevirtual 76, 3, [60]), (28, .pop, 1, []), (29, .aload_n 0, 1, []), (30, .getfield 25, 3, [1004]), (33, .getfield 94, 3, [401]), (36, .ifCond .eq 5, 3, [24]), (39, .iload_n 3, 1, []), (40, .ireturn, 1, []), (41, .iinc 3 1, 3, []), (44, .goto (-36), 3, [6]), (47, .iconst (-1), 1, []), (48, .ireturn, 1, [])]
def p_Trial_putsTillTurned : zz_P := (115, ⟨"TurnQueues$Trial", "putsTillTurned", "(LTurnQueues$Deeds;LTurnQueues$State;)I"⟩, prog_12_method_5_code, 4, (some .int), q_Trial_putsTillTurned)
set_option maxRecDepth 100000 in
theorem k_Trial_putsTillTurned : zz_okP p_Trial_putsTillTurned := ⟨by decide +kernel, zz_mem_r [1185, 483, 484, 1158, 483, 281] rfl (by decide +kernel)⟩
set_option maxRecDepth 100000 in
theorem o_Trial_putsTillTurned : zz_okC p_Trial_putsTillTurned false 10 3 := zz_okV (zz_mem_r (ws := [Cond.code p_Trial_putsTillTurned.y p_Trial_putsTillTurned.bytes p_Trial_putsTillTurned.maxL p_Trial_putsTillTurned.ret, Cond.initialized p_Trial_putsTillTurned.y.cls, Cond.instanceMethod p_Trial_putsTillTurned.y, Cond.selects p_Trial_putsTillTurned.y.cls p_Trial_putsTillTurned.y p_Trial_putsTillTurned.y]) [1184, 107, 1182, 1183] rfl (by decide +kernel)) rfl rfl (by decide +kernel) (by decide +kernel) rfl (by decide +kernel) rfl
def q_Trial_putsTillAtRest : List zz_C := [(0, .aload_n 0, 1, []), (1, .aload_n 1, 1, []), (2, .aload_n 2, 1, []), (3, .invokevirtual 90, 3, [112]), (6, .iconst 0, 1, []), (7, .istore_n 3, 1, []), (8, .iload_n 3, 1, []), (9, .bipush 40, 2, []), (11, .if_icmp .gt 36, 3, [26]), (14, .aload_n 0, 1, []), (15, .getfield 32, 3, [1005]), (18, .invokevirtual 98, 3, [109]), (21, .ifCond .eq 5, 3, [15]), (24, .iload_n 3, 1, []), (25, .ireturn, 1, []), (26, .aload_n 0, 1, []), (27, .getfield 25, 3, [1004]), (30, .aload_n 0, 1, []), (31, .getfield 32, 3, [1005]), (34, .iconst 0, 1, []), (35, .iconst 0, 1, []), (36, .iconst (-1), 1, []), (37, .invokevirtual 76, 3, [60]), (40, .pop, 1, []), (41, .iinc 3 1, 3, []), (44, .goto (-36), 3, [6]), (47, .iconst (-1), 1, []), (48, .ireturn, 1, [])]
def p_Trial_putsTillAtRest : zz_P := (116, ⟨"TurnQueues$Trial", "putsTillAtRest", "(LTurnQueues$Deeds;LTurnQueues$State;)I"⟩, prog_12_method_6_code, 4, (some .int), q_Trial_putsTillAtRest)
set_option maxRecDepth 100000 in
theorem k_Trial_putsTillAtRest : zz_okP p_Trial_putsTillAtRest := ⟨by decide +kernel, zz_mem_r [1185, 484, 1197, 483, 484, 1158] rfl (by decide +kernel)⟩
set_option maxRecDepth 100000 in
theorem o_Trial_putsTillAtRest : zz_okC p_Trial_putsTillAtRest false 10 3 := zz_okV (zz_mem_r (ws := [Cond.code p_Trial_putsTillAtRest.y p_Trial_putsTillAtRest.bytes p_Trial_putsTillAtRest.maxL p_Trial_putsTillAtRest.ret, Cond.initialized p_Trial_putsTillAtRest.y.cls, Cond.instanceMethod p_Trial_putsTillAtRest.y, Cond.selects p_Trial_putsTillAtRest.y.cls p_Trial_putsTillAtRest.y p_Trial_putsTillAtRest.y]) [1196, 107, 1194, 1195] rfl (by decide +kernel)) rfl rfl (by decide +kernel) (by decide +kernel) rfl (by decide +kernel) rfl
def q_Trial_stepsToDrain : List zz_C := [(0, .aload_n 0, 1, []), (1, .aload_n 1, 1, []), (2, .aload_n 2, 1, []), (3, .invokevirtual 90, 3, [112]), (6, .iconst 0, 1, []), (7, .istore_n 3, 1, []), (8, .iload_n 3, 1, []), (9, .bipush 60, 2, []), (11, .if_icmp .ge 42, 3, [28]), (14, .aload_n 0, 1, []), (15, .getfield 32, 3, [1005]), (18, .getfield 102, 3, [906]), (21, .ifCond .le 32, 3, [28]), (24, .aload_n 0, 1, []), (25, .dup, 1, []), (26, .getfield 56, 3, [1001]), (29, .aload_n 0, 1, []), (30, .getfield 25, 3, [1004]), (33, .aload_n 0, 1, []), (34, .getfield 32, 3, [1005]), (37, .iconst 1, 1, []), (38, .iconst 0, 1, []), (39, .iconst (-1), 1, []), (40, .invokevirtual 76, 3, [60]), (43, .iadd, 1, []), (44, .putfield 56, 3, [1001]), (47, .iinc 3 1, 3, []), (50, .goto (-42), 3, [6]), (53, .aload_n 0, 1, []), (54, .getfield 56, 3, [1001]), (57, .ireturn, 1, [])]
def p_Trial_stepsToDrain : zz_P := (117, ⟨"TurnQueues$Trial", "stepsToDrain", "(LTurnQueues$Deeds;LTurnQueues$State;)I"⟩, prog_12_method_7_code, 4, (some .int), q_Trial_stepsToDrain)
set_option maxRecDepth 100000 in
theorem k_Trial_stepsToDrain : zz_okP p_Trial_stepsToDrain := ⟨by decide +kernel, zz_mem_r [1185, 484, 366, 477, 483, 484, 1158, 477, 477] rfl (by decide +kernel)⟩
set_option maxRecDepth 100000 in
theorem o_Trial_stepsToDrain : zz_okC p_Trial_stepsToDrain false 10 3 := zz_okV (zz_mem_r (ws := [Cond.code p_Trial_stepsToDrain.y p_Trial_stepsToDrain.bytes p_Trial_stepsToDrain.maxL p_Trial_stepsToDrain.ret, Cond.initialized p_Trial_stepsToDrain.y.cls, Cond.instanceMethod p_Trial_stepsToDrain.y, Cond.selects p_Trial_stepsToDrain.y.cls p_Trial_stepsToDrain.y p_Trial_stepsToDrain.y]) [1248, 107, 1246, 1247] rfl (by decide +kernel)) rfl rfl (by decide +kernel) (by decide +kernel) rfl (by decide +kernel) rfl
def q_Trial_stepsOfLetters : List zz_C := [(0, .aload_n 0, 1, []), (1, .aload_n 1, 1, []), (2, .aload_n 2, 1, []), (3, .invokevirtual 90, 3, [112]), (6, .iconst 0, 1, []), (7, .istore 4, 2, []), (9, .iload 4, 2, []), (11, .aload_n 3, 1, []), (12, .getfield 105, 3, [0]), (15, .if_icmp .ge 74, 3, [44]), (18, .aload_n 3, 1, []), (19, .iload 4, 2, []), (21, .invokevirtual 110, 3, [5]), (24, .aload_n 1, 1, []), (25, .getfield 40, 3, [201]), (28, .invokestatic 114, 3, [119]), (31, .istore 5, 2, []), (33, .iload 5, 2, []), (35, .iconst (-1), 1, []), (36, .if_icmp .eq 21, 3, [27]), (39, .iload 5, 2, []), (41, .invokestatic 117, 3, [178, 2]), (44, .ifCond .ne 15, 3, [29]), (47, .aload_n 0, 1, []), (48, .getfield 32, 3, [1005]), (51, .getfield 102, 3, [906]), (54, .ifCond .ne 5, 3, [29]), (57, .iconst (-1), 1, []), (58, .ireturn, 1, []), (59, .aload_n 0, 1, []), (60, .dup, 1, []), (61, .getfield 56, 3, [1001]), (64, .aload_n 0, 1, []), (65, .getfield 25, 3, [1004]), (68, .aload_n 0, 1, []), (69, .getfield 32, 3, [1005]), (72, .iload 5, 2, []), (74, .iconst 0, 1, []), (75, .iconst (-1), 1, []), (76, .invokevirtual 76, 3, [60]), (79, .iadd, 1, []), (80, .putfield 56, 3, [1001]), (83, .iinc 4 1, 3, []), (86, .goto (-77), 3, [6]), (89, .aload_n 0, 1, []), (90, .getfield 56, 3, [1001]), (93, .ireturn, 1, [])]
def p_Trial_stepsOfLetters : zz_P := (118, ⟨"TurnQueues$Trial", "stepsOfLetters", "(LTurnQueues$Deeds;LTurnQueues$State;LTurnQueues$Bytes;)I"⟩, prog_12_method_8_code, 6, (some .int), q_Trial_stepsOfLetters)
set_option maxRecDepth 100000 in
theorem k_Trial_stepsOfLetters : zz_okP p_Trial_stepsOfLetters := ⟨by decide +kernel, zz_mem_r [1185, 133, 1267, 158, 1268, 484, 366, 477, 483, 484, 1158, 477, 477] rfl (by decide +kernel)⟩
set_option maxRecDepth 100000 in
theorem o_Trial_stepsOfLetters : zz_okC p_Trial_stepsOfLetters false 10 4 := zz_okV (zz_mem_r (ws := [Cond.code p_Trial_stepsOfLetters.y p_Trial_stepsOfLetters.bytes p_Trial_stepsOfLetters.maxL p_Trial_stepsOfLetters.ret, Cond.initialized p_Trial_stepsOfLetters.y.cls, Cond.instanceMethod p_Trial_stepsOfLetters.y, Cond.selects p_Trial_stepsOfLetters.y.cls p_Trial_stepsOfLetters.y p_Trial_stepsOfLetters.y]) [1266, 107, 1264, 1265] rfl (by decide +kernel)) rfl rfl (by decide +kernel) (by decide +kernel) rfl (by decide +kernel) rfl
def q_Trial_kindOfLetter : List zz_C := [(0, .iload_n 0, 1, []), (1, .lookupswitch 69 #[(102, 47), (108, 58), (112, 43), (116, 45)], 43, [20, 6, 13, 2, 4]), (44, .iconst 0, 1, []), (45, .ireturn, 1, []), (46, .iconst 1, 1, []), (47, .ireturn, 1, []), (48, .iload_n 1, 1, []), (49, .iconst 2, 1, []), (50, .if_icmp .ne 7, 3, [11]), (53, .iconst 2, 1, []), (54, .goto 4, 3, [12]), (57, .iconst (-1), 1, []), (58, .ireturn, 1, []), (59, .iload_n 1, 1, []), (60, .iconst 2, 1, []), (61, .if_icmp .ne 7, 3, [18]), (64, .iconst 3, 1, []), (65, .goto 4, 3, [19]), (68, .iconst (-1), 1, []), (69, .ireturn, 1, []), (70, .iconst (-1), 1, []), (71, .ireturn, 1, [])]
def p_Trial_kindOfLetter : zz_P := (119, ⟨"TurnQueues$Trial", "kindOfLetter", "(II)I"⟩, prog_12_method_9_code, 2, (some .int), q_Trial_kindOfLetter)
set_option maxRecDepth 100000 in
theorem k_Trial_kindOfLetter : zz_okP p_Trial_kindOfLetter := ⟨by decide +kernel, zz_mem_r [] rfl (by decide +kernel)⟩
set_option maxRecDepth 100000 in
theorem o_Trial_kindOfLetter : zz_okC p_Trial_kindOfLetter true 0 2 := zz_okS  (zz_mem_r (ws := [Cond.code p_Trial_kindOfLetter.y p_Trial_kindOfLetter.bytes p_Trial_kindOfLetter.maxL p_Trial_kindOfLetter.ret, Cond.initialized p_Trial_kindOfLetter.y.cls, Cond.static p_Trial_kindOfLetter.y]) [1270, 107, 1269] rfl (by decide +kernel)) rfl rfl (by decide +kernel) (by decide +kernel) rfl (by decide +kernel)
def q_Trial_graftWay : List zz_C := [(0, .aload_n 1, 1, []), (1, .iload_n 2, 1, []), (2, .iload_n 3, 1, []), (3, .invokevirtual 120, 3, [42]), (6, .istore 5, 2, []), (8, .aload_n 1, 1, []), (9, .iload 4, 2, []), (11, .invokevirtual 125, 3, [34]), (14, .astore 6, 2, []), (16, .aload_n 1, 1, []), (17, .iload 4, 2, []), (19, .invokevirtual 129, 3, [35]), (22, .astore 7, 2, []), (24, .iload 5, 2, []), (26, .iconst (-1), 1, []), (27, .if_icmp .eq 13, 3, [20]), (30, .aload 6, 2, []), (32, .ifnull 8, 3, [20]), (35, .aload 7, 2, []), (37, .ifnonnull 5, 3, [22]), (40, .iconst (-1), 1, []), (41, .ireturn, 1, []), (42, .aload_n 0, 1, []), (43, .aload_n 1, 1, []), (44, .getfield 133, 3, [300]), (47, .aload 6, 2, []), (49, .invokevirtual 90, 3, [112]), (52, .aload_n 0, 1, []), (53, .getfield 14, 3, [1003]), (56, .aload 7, 2, []), (58, .invokevirtual 137, 3, [73]), (61, .aload_n 0, 1, []), (62, .iconst (-1), 1, []), (63, .putfield 140, 3, [1002]), (66, .iconst 0, 1, []), (67, .istore 8, 2, []), (69, .iload 8, 2, []), (71, .iload 5, 2, []), (73, .if_icmp .ge 31, 3, [52]), (76, .aload_n 0, 1, []), (77, .getfield 140, 3, [1002]), (80, .iconst (-1), 1, []), (81, .if_icmp .ne 23, 3, [52]), (84, .aload_n 0, 1, []), (85, .aload_n 1, 1, []), (86, .getfield 133, 3, [300]), (89, .aload_n 1, 1, []), (90, .iload 8, 2, []), (92, .invokevirtual 143, 3, [43]), (95, .invokevirtual 146, 3, [121]), (98, .iinc 8 1, 3, []), (101, .goto (-32), 3, [36]), (104, .iload 5, 2, []), (106, .ireturn, 1, [])]
def p_Trial_graftWay : zz_P := (120, ⟨"TurnQueues$Trial", "graftWay", "(LTurnQueues$History;III)I"⟩, prog_12_method_10_code, 9, (some .int), q_Trial_graftWay)
set_option maxRecDepth 100000 in
theorem k_Trial_graftWay : zz_okP p_Trial_graftWay := ⟨by decide +kernel, zz_mem_r [1284, 1285, 1286, 428, 1185, 481, 1287, 479, 479, 428, 1288, 1289] rfl (by decide +kernel)⟩
set_option maxRecDepth 100000 in
theorem o_Trial_graftWay : zz_okC p_Trial_graftWay false 10 5 := zz_okV (zz_mem_r (ws := [Cond.code p_Trial_graftWay.y p_Trial_graftWay.bytes p_Trial_graftWay.maxL p_Trial_graftWay.ret, Cond.initialized p_Trial_graftWay.y.cls, Cond.instanceMethod p_Trial_graftWay.y, Cond.selects p_Trial_graftWay.y.cls p_Trial_graftWay.y p_Trial_graftWay.y]) [1283, 107, 1281, 1282] rfl (by decide +kernel)) rfl rfl (by decide +kernel) (by decide +kernel) rfl (by decide +kernel) rfl
def q_Trial_graftDeed : List zz_C := [(0, .aload_n 1, 1, []), (1, .iload_n 2, 1, []), (2, .invokevirtual 62, 3, [25]), (5, .ifCond .ne 4, 3, [5]), (8, .return_, 1, []), (9, .aload_n 1, 1, []), (10, .getfield 73, 3, [205]), (13, .iload_n 2, 1, []), (14, .iaload, 1, []), (15, .istore_n 3, 1, []), (16, .iload_n 3, 1, []), (17, .invokestatic 117, 3, [178, 2]), (20, .ifCond .ne 21, 3, [21]), (23, .aload_n 0, 1, []), (24, .getfield 32, 3, [1005]), (27, .getfield 102, 3, [906]), (30, .ifCond .ne 11, 3, [21]), (33, .aload_n 0, 1, []), (34, .iload_n 2, 1, []), (35, .putfield 140, 3, [1002]), (38, .goto 41, 3, [43]), (41, .aload_n 0, 1, []), (42, .getfield 14, 3, [1003]), (45, .iload_n 3, 1, []), (46, .aload_n 1, 1, []), (47, .getfield 150, 3, [207]), (50, .iload_n 2, 1, []), (51, .iaload, 1, []), (52, .invokevirtual 153, 3, [75]), (55, .pop, 1, []), (56, .aload_n 0, 1, []), (57, .dup, 1, []), (58, .getfield 56, 3, [1001]), (61, .aload_n 0, 1, []), (62, .getfield 25, 3, [1004]), (65, .aload_n 0, 1, []), (66, .getfield 32, 3, [1005]), (69, .iload_n 3, 1, []), (70, .iconst 0, 1, []), (71, .iconst (-1), 1, []), (72, .invokevirtual 76, 3, [60]), (75, .iadd, 1, []), (76, .putfield 56, 3, [1001]), (79, .return_, 1, [])]
def p_Trial_graftDeed : zz_P := (121, ⟨"TurnQueues$Trial", "graftDeed", "(LTurnQueues$Deeds;I)V"⟩, prog_12_method_11_code, 4, none, q_Trial_graftDeed)
set_option maxRecDepth 100000 in
theorem k_Trial_graftDeed : zz_okP p_Trial_graftDeed := ⟨by decide +kernel, zz_mem_r [1155, 178, 484, 366, 479, 481, 188, 1293, 477, 483, 484, 1158, 477] rfl (by decide +kernel)⟩
set_option maxRecDepth 100000 in
theorem o_Trial_graftDeed : zz_okC p_Trial_graftDeed false 10 3 := zz_okV (zz_mem_r (ws := [Cond.code p_Trial_graftDeed.y p_Trial_graftDeed.bytes p_Trial_graftDeed.maxL p_Trial_graftDeed.ret, Cond.initialized p_Trial_graftDeed.y.cls, Cond.instanceMethod p_Trial_graftDeed.y, Cond.selects p_Trial_graftDeed.y.cls p_Trial_graftDeed.y p_Trial_graftDeed.y]) [1292, 107, 1291, 33] rfl (by decide +kernel)) rfl rfl (by decide +kernel) (by decide +kernel) rfl (by decide +kernel) rfl
end
section
/-! the code of the methods, printed by program -/
def q_TQ_feed : List zz_C := [(0, .aload_n 0, 1, []), (1, .getfield 14, 3, [1100]), (4, .getfield 56, 3, [0]), (7, .sipush 580, 3, []), (10, .if_icmp .le 5, 3, [7]), (13, .iconst (-1), 1, []), (14, .ireturn, 1, []), (15, .aload_n 0, 1, []), (16, .getfield 14, 3, [1100]), (19, .iload_n 1, 1, []), (20, .invokevirtual 60, 3, [2]), (23, .aload_n 0, 1, []), (24, .getfield 14, 3, [1100]), (27, .iload_n 2, 1, []), (28, .invokevirtual 60, 3, [2]), (31, .aload_n 0, 1, []), (32, .getfield 14, 3, [1100]), (35, .iload_n 3, 1, []), (36, .invokevirtual 60, 3, [2]), (39, .aload_n 0, 1, []), (40, .getfield 14, 3, [1100]), (43, .iload 4, 2, []), (45, .invokevirtual 60, 3, [2]), (48, .aload_n 0, 1, []), (49, .getfield 14, 3, [1100]), (52, .iload 5, 2, []), (54, .invokevirtual 60, 3, [2]), (57, .aload_n 0, 1, []), (58, .getfield 14, 3, [1100]), (61, .getfield 56, 3, [0]), (64, .ireturn, 1, [])]
def p_TQ_feed : zz_P := (123, ⟨"TurnQueues", "feed", "(IIIII)I"⟩, prog_1_method_2_code, 6, (some .int), q_TQ_feed)
set_option maxRecDepth 100000 in
theorem k_TQ_feed : zz_okP p_TQ_feed := ⟨by decide +kernel, zz_mem_r [545, 132, 545, 571, 545, 571, 545, 571, 545, 571, 545, 571, 545, 132] rfl (by decide +kernel)⟩
set_option maxRecDepth 100000 in
theorem o_TQ_feed : zz_okC p_TQ_feed false 11 6 := zz_okV (zz_mem_r (ws := [Cond.code p_TQ_feed.y p_TQ_feed.bytes p_TQ_feed.maxL p_TQ_feed.ret, Cond.initialized p_TQ_feed.y.cls, Cond.instanceMethod p_TQ_feed.y, Cond.selects p_TQ_feed.y.cls p_TQ_feed.y p_TQ_feed.y]) [570, 96, 568, 569] rfl (by decide +kernel)) rfl rfl (by decide +kernel) (by decide +kernel) rfl (by decide +kernel) rfl
def q_TQ_end : List zz_C := [(0, .iload_n 1, 1, []), (1, .ifCond .lt 14, 3, [7]), (4, .iload_n 1, 1, []), (5, .aload_n 0, 1, []), (6, .getfield 14, 3, [1100]), (9, .getfield 56, 3, [0]), (12, .if_icmp .le 5, 3, [9]), (15, .iconst (-1), 1, []), (16, .ireturn, 1, []), (17, .aload_n 0, 1, []), (18, .getfield 14, 3, [1100]), (21, .iload_n 1, 1, []), (22, .putfield 56, 3, [0]), (25, .iload_n 1, 1, []), (26, .ireturn, 1, [])]
def p_TQ_end : zz_P := (124, ⟨"TurnQueues", "end", "(I)I"⟩, prog_1_method_3_code, 2, (some .int), q_TQ_end)
set_option maxRecDepth 100000 in
theorem k_TQ_end : zz_okP p_TQ_end := ⟨by decide +kernel, zz_mem_r [545, 132, 545, 132] rfl (by decide +kernel)⟩
set_option maxRecDepth 100000 in
theorem o_TQ_end : zz_okC p_TQ_end false 11 2 := zz_okV (zz_mem_r (ws := [Cond.code p_TQ_end.y p_TQ_end.bytes p_TQ_end.maxL p_TQ_end.ret, Cond.initialized p_TQ_end.y.cls, Cond.instanceMethod p_TQ_end.y, Cond.selects p_TQ_end.y.cls p_TQ_end.y p_TQ_end.y]) [582, 96, 580, 581] rfl (by decide +kernel)) rfl rfl (by decide +kernel) (by decide +kernel) rfl (by decide +kernel) rfl
def q_TQ_house : List zz_C := [(0, .aload_n 0, 1, []), (1, .getfield 24, 3, [1102]), (4, .aload_n 0, 1, []), (5, .getfield 14, 3, [1100]), (8, .invokevirtual 63, 3, [80]), (11, .istore_n 1, 1, []), (12, .aload_n 0, 1, []), (13, .getfield 14, 3, [1100]), (16, .iconst 0, 1, []), (17, .putfield 56, 3, [0]), (20, .iload_n 1, 1, []), (21, .ifCond .ne 6, 3, [14]), (24, .bipush (-4), 2, []), (26, .ireturn, 1, []), (27, .aload_n 0, 1, []), (28, .getfield 31, 3, [1103]), (31, .aload_n 0, 1, []), (32, .getfield 24, 3, [1102]), (35, .getfield 67, 3, [600]), (38, .invokevirtual 71, 3, [32]), (41, .aload_n 0, 1, []), (42, .getfield 31, 3, [1103]), (45, .getfield 75, 3, [300]), (48, .invokevirtual 78, 3, [22]), (51, .ireturn, 1, [])]
def p_TQ_house : zz_P := (125, ⟨"TurnQueues", "house", "()I"⟩, prog_1_method_4_code, 2, (some .int), q_TQ_house)
set_option maxRecDepth 100000 in
theorem k_TQ_house : zz_okP p_TQ_house := ⟨by decide +kernel, zz_mem_r [547, 545, 587, 545, 132, 548, 547, 208, 721, 548, 427, 862] rfl (by decide +kernel)⟩
set_option maxRecDepth 100000 in
theorem o_TQ_house : zz_okC p_TQ_house false 11 1 := zz_okV (zz_mem_r (ws := [Cond.code p_TQ_house.y p_TQ_house.bytes p_TQ_house.maxL p_TQ_house.ret, Cond.initialized p_TQ_house.y.cls, Cond.instanceMethod p_TQ_house.y, Cond.selects p_TQ_house.y.cls p_TQ_house.y p_TQ_house.y]) [586, 96, 584, 585] rfl (by decide +kernel)) rfl rfl (by decide +kernel) (by decide +kernel) rfl (by decide +kernel) rfl
def q_TQ_fault : List zz_C := [(0, .iload_n 1, 1, []), (1, .lookupswitch 43 #[(0, 27), (1, 35)], 27, [10, 2, 6]), (28, .aload_n 0, 1, []), (29, .getfield 24, 3, [1102]), (32, .getfield 82, 3, [601]), (35, .ireturn, 1, []), (36, .aload_n 0, 1, []), (37, .getfield 24, 3, [1102]), (40, .getfield 85, 3, [602]), (43, .ireturn, 1, []), (44, .iconst (-1), 1, []), (45, .ireturn, 1, [])]
def p_TQ_fault : zz_P := (126, ⟨"TurnQueues", "fault", "(I)I"⟩, prog_1_method_5_code, 2, (some .int), q_TQ_fault)
set_option maxRecDepth 100000 in
theorem k_TQ_fault : zz_okP p_TQ_fault := ⟨by decide +kernel, zz_mem_r [547, 210, 547, 212] rfl (by decide +kernel)⟩
set_option maxRecDepth 100000 in
theorem o_TQ_fault : zz_okC p_TQ_fault false 11 2 := zz_okV (zz_mem_r (ws := [Cond.code p_TQ_fault.y p_TQ_fault.bytes p_TQ_fault.maxL p_TQ_fault.ret, Cond.initialized p_TQ_fault.y.cls, Cond.instanceMethod p_TQ_fault.y, Cond.selects p_TQ_fault.y.cls p_TQ_fault.y p_TQ_fault.y]) [869, 96, 867, 868] rfl (by decide +kernel)) rfl rfl (by decide +kernel) (by decide +kernel) rfl (by decide +kernel) rfl
def q_TQ_count : List zz_C := [(0, .aload_n 0, 1, []), (1, .getfield 31, 3, [1103]), (4, .getfield 75, 3, [300]), (7, .astore_n 2, 1, []), (8, .iload_n 1, 1, []), (9, .tableswitch 93 0 7 #[47, 52, 57, 62, 67, 72, 77, 85], 47, [32, 6, 9, 12, 15, 18, 21, 24, 28]), (56, .aload_n 2, 1, []), (57, .getfield 88, 3, [201]), (60, .ireturn, 1, []), (61, .aload_n 2, 1, []), (62, .getfield 91, 3, [202]), (65, .ireturn, 1, []), (66, .aload_n 2, 1, []), (67, .invokevirtual 94, 3, [21]), (70, .ireturn, 1, []), (71, .aload_n 2, 1, []), (72, .getfield 97, 3, [204]), (75, .ireturn, 1, []), (76, .aload_n 2, 1, []), (77, .invokevirtual 100, 3, [23]), (80, .ireturn, 1, []), (81, .aload_n 2, 1, []), (82, .invokevirtual 78, 3, [22]), (85, .ireturn, 1, []), (86, .aload_n 0, 1, []), (87, .getfield 14, 3, [1100]), (90, .getfield 56, 3, [0]), (93, .ireturn, 1, []), (94, .aload_n 0, 1, []), (95, .getfield 18, 3, [1101]), (98, .getfield 56, 3, [0]), (101, .ireturn, 1, []), (102, .iconst (-1), 1, []), (103, .ireturn, 1, [])]
def p_TQ_count : zz_P := (127, ⟨"TurnQueues", "count", "(I)I"⟩, prog_1_method_6_code, 3, (some .int), q_TQ_count)
set_option maxRecDepth 100000 in
theorem k_TQ_count : zz_okP p_TQ_count := ⟨by decide +kernel, zz_mem_r [548, 427, 163, 169, 874, 175, 875, 862, 545, 132, 546, 132] rfl (by decide +kernel)⟩
set_option maxRecDepth 100000 in
theorem o_TQ_count : zz_okC p_TQ_count false 11 2 := zz_okV (zz_mem_r (ws := [Cond.code p_TQ_count.y p_TQ_count.bytes p_TQ_count.maxL p_TQ_count.ret, Cond.initialized p_TQ_count.y.cls, Cond.instanceMethod p_TQ_count.y, Cond.selects p_TQ_count.y.cls p_TQ_count.y p_TQ_count.y]) [873, 96, 871, 872] rfl (by decide +kernel)) rfl rfl (by decide +kernel) (by decide +kernel) rfl (by decide +kernel) rfl
def q_TQ_version : List zz_C := [(0, .aload_n 0, 1, []), (1, .getfield 31, 3, [1103]), (4, .getfield 75, 3, [300]), (7, .astore_n 3, 1, []), (8, .aload_n 3, 1, []), (9, .iload_n 1, 1, []), (10, .invokevirtual 103, 3, [24]), (13, .ifCond .eq 12, 3, [13]), (16, .iload_n 2, 1, []), (17, .ifCond .lt 8, 3, [13]), (20, .iload_n 2, 1, []), (21, .iconst 2, 1, []), (22, .if_icmp .le 6, 3, [15]), (25, .bipush (-2), 2, []), (27, .ireturn, 1, []), (28, .iload_n 1, 1, []), (29, .iconst 1, 1, []), (30, .isub, 1, []), (31, .istore 4, 2, []), (33, .aload_n 3, 1, []), (34, .iload 4, 2, []), (36, .invokevirtual 107, 3, [25]), (39, .ifCond .ne 5, 3, [25]), (42, .iconst (-1), 1, []), (43, .ireturn, 1, []), (44, .iload_n 2, 1, []), (45, .ifCond .ne 11, 3, [32]), (48, .aload_n 3, 1, []), (49, .getfield 110, 3, [206]), (52, .iload 4, 2, []), (54, .iaload, 1, []), (55, .ireturn, 1, []), (56, .iload_n 2, 1, []), (57, .iconst 1, 1, []), (58, .if_icmp .ne 13, 3, [40]), (61, .aload_n 3, 1, []), (62, .getfield 114, 3, [205]), (65, .iload 4, 2, []), (67, .iaload, 1, []), (68, .goto 10, 3, [44]), (71, .aload_n 3, 1, []), (72, .getfield 117, 3, [207]), (75, .iload 4, 2, []), (77, .iaload, 1, []), (78, .ireturn, 1, [])]
def p_TQ_version : zz_P := (128, ⟨"TurnQueues", "version", "(II)I"⟩, prog_1_method_7_code, 5, (some .int), q_TQ_version)
set_option maxRecDepth 100000 in
theorem k_TQ_version : zz_okP p_TQ_version := ⟨by decide +kernel, zz_mem_r [548, 427, 883, 884, 184, 180, 187] rfl (by decide +kernel)⟩
set_option maxRecDepth 100000 in
theorem o_TQ_version : zz_okC p_TQ_version false 11 3 := zz_okV (zz_mem_r (ws := [Cond.code p_TQ_version.y p_TQ_version.bytes p_TQ_version.maxL p_TQ_version.ret, Cond.initialized p_TQ_version.y.cls, Cond.instanceMethod p_TQ_version.y, Cond.selects p_TQ_version.y.cls p_TQ_version.y p_TQ_version.y]) [882, 96, 880, 881] rfl (by decide +kernel)) rfl rfl (by decide +kernel) (by decide +kernel) rfl (by decide +kernel) rfl
def q_TQ_size : List zz_C := [(0, .aload_n 0, 1, []), (1, .getfield 31, 3, [1103]), (4, .iload_n 1, 1, []), (5, .invokevirtual 120, 3, [35]), (8, .astore_n 2, 1, []), (9, .aload_n 2, 1, []), (10, .ifnonnull 8, 3, [9]), (13, .bipush (-2), 2, []), (15, .goto 7, 3, [11]), (18, .aload_n 2, 1, []), (19, .getfield 124, 3, [500]), (22, .ireturn, 1, [])]
def p_TQ_size : zz_P := (129, ⟨"TurnQueues", "size", "(I)I"⟩, prog_1_method_8_code, 3, (some .int), q_TQ_size)
set_option maxRecDepth 100000 in
theorem k_TQ_size : zz_okP p_TQ_size := ⟨by decide +kernel, zz_mem_r [548, 889, 418] rfl (by decide +kernel)⟩
set_option maxRecDepth 100000 in
theorem o_TQ_size : zz_okC p_TQ_size false 11 2 := zz_okV (zz_mem_r (ws := [Cond.code p_TQ_size.y p_TQ_size.bytes p_TQ_size.maxL p_TQ_size.ret, Cond.initialized p_TQ_size.y.cls, Cond.instanceMethod p_TQ_size.y, Cond.selects p_TQ_size.y.cls p_TQ_size.y p_TQ_size.y]) [888, 96, 886, 887] rfl (by decide +kernel)) rfl rfl (by decide +kernel) (by decide +kernel) rfl (by decide +kernel) rfl
def q_TQ_at : List zz_C := [(0, .aload_n 0, 1, []), (1, .getfield 31, 3, [1103]), (4, .iload_n 1, 1, []), (5, .invokevirtual 120, 3, [35]), (8, .astore_n 3, 1, []), (9, .aload_n 3, 1, []), (10, .ifnull 7, 3, [9]), (13, .iload_n 2, 1, []), (14, .ifCond .ge 8, 3, [11]), (17, .bipush (-2), 2, []), (19, .goto 8, 3, [14]), (22, .aload_n 3, 1, []), (23, .iload_n 2, 1, []), (24, .invokevirtual 127, 3, [74]), (27, .ireturn, 1, [])]
def p_TQ_at : zz_P := (130, ⟨"TurnQueues", "at", "(II)I"⟩, prog_1_method_9_code, 4, (some .int), q_TQ_at)
set_option maxRecDepth 100000 in
theorem k_TQ_at : zz_okP p_TQ_at := ⟨by decide +kernel, zz_mem_r [548, 889, 894] rfl (by decide +kernel)⟩
set_option maxRecDepth 100000 in
theorem o_TQ_at : zz_okC p_TQ_at false 11 3 := zz_okV (zz_mem_r (ws := [Cond.code p_TQ_at.y p_TQ_at.bytes p_TQ_at.maxL p_TQ_at.ret, Cond.initialized p_TQ_at.y.cls, Cond.instanceMethod p_TQ_at.y, Cond.selects p_TQ_at.y.cls p_TQ_at.y p_TQ_at.y]) [893, 96, 891, 892] rfl (by decide +kernel)) rfl rfl (by decide +kernel) (by decide +kernel) rfl (by decide +kernel) rfl
def q_TQ_first : List zz_C := [(0, .aload_n 0, 1, []), (1, .getfield 31, 3, [1103]), (4, .iload_n 1, 1, []), (5, .invokevirtual 120, 3, [35]), (8, .astore_n 2, 1, []), (9, .aload_n 2, 1, []), (10, .ifnonnull 8, 3, [9]), (13, .bipush (-2), 2, []), (15, .goto 8, 3, [12]), (18, .aload_n 2, 1, []), (19, .iconst 0, 1, []), (20, .invokevirtual 127, 3, [74]), (23, .ireturn, 1, [])]
def p_TQ_first : zz_P := (131, ⟨"TurnQueues", "first", "(I)I"⟩, prog_1_method_10_code, 3, (some .int), q_TQ_first)
set_option maxRecDepth 100000 in
theorem k_TQ_first : zz_okP p_TQ_first := ⟨by decide +kernel, zz_mem_r [548, 889, 894] rfl (by decide +kernel)⟩
set_option maxRecDepth 100000 in
theorem o_TQ_first : zz_okC p_TQ_first false 11 2 := zz_okV (zz_mem_r (ws := [Cond.code p_TQ_first.y p_TQ_first.bytes p_TQ_first.maxL p_TQ_first.ret, Cond.initialized p_TQ_first.y.cls, Cond.instanceMethod p_TQ_first.y, Cond.selects p_TQ_first.y.cls p_TQ_first.y p_TQ_first.y]) [898, 96, 896, 897] rfl (by decide +kernel)) rfl rfl (by decide +kernel) (by decide +kernel) rfl (by decide +kernel) rfl
def q_TQ_tail : List zz_C := [(0, .aload_n 0, 1, []), (1, .getfield 31, 3, [1103]), (4, .iload_n 1, 1, []), (5, .invokevirtual 120, 3, [35]), (8, .astore_n 2, 1, []), (9, .aload_n 2, 1, []), (10, .ifnonnull 8, 3, [9]), (13, .bipush (-2), 2, []), (15, .goto 13, 3, [15]), (18, .aload_n 2, 1, []), (19, .aload_n 2, 1, []), (20, .getfield 124, 3, [500]), (23, .iconst 1, 1, []), (24, .isub, 1, []), (25, .invokevirtual 127, 3, [74]), (28, .ireturn, 1, [])]
def p_TQ_tail : zz_P := (132, ⟨"TurnQueues", "tail", "(I)I"⟩, prog_1_method_11_code, 3, (some .int), q_TQ_tail)
set_option maxRecDepth 100000 in
theorem k_TQ_tail : zz_okP p_TQ_tail := ⟨by decide +kernel, zz_mem_r [548, 889, 418, 894] rfl (by decide +kernel)⟩
set_option maxRecDepth 100000 in
theorem o_TQ_tail : zz_okC p_TQ_tail false 11 2 := zz_okV (zz_mem_r (ws := [Cond.code p_TQ_tail.y p_TQ_tail.bytes p_TQ_tail.maxL p_TQ_tail.ret, Cond.initialized p_TQ_tail.y.cls, Cond.instanceMethod p_TQ_tail.y, Cond.selects p_TQ_tail.y.cls p_TQ_tail.y p_TQ_tail.y]) [902, 96, 900, 901] rfl (by decide +kernel)) rfl rfl (by decide +kernel) (by decide +kernel) rfl (by decide +kernel) rfl
def q_TQ_like : List zz_C := [(0, .aload_n 0, 1, []), (1, .getfield 31, 3, [1103]), (4, .getfield 75, 3, [300]), (7, .iload_n 1, 1, []), (8, .invokevirtual 103, 3, [24]), (11, .ifCond .eq 14, 3, [11]), (14, .aload_n 0, 1, []), (15, .getfield 31, 3, [1103]), (18, .iload_n 1, 1, []), (19, .invokevirtual 131, 3, [52]), (22, .goto 5, 3, [12]), (25, .bipush (-2), 2, []), (27, .ireturn, 1, [])]
def p_TQ_like : zz_P := (133, ⟨"TurnQueues", "like", "(I)I"⟩, prog_1_method_12_code, 2, (some .int), q_TQ_like)
set_option maxRecDepth 100000 in
theorem k_TQ_like : zz_okP p_TQ_like := ⟨by decide +kernel, zz_mem_r [548, 427, 883, 548, 907] rfl (by decide +kernel)⟩
set_option maxRecDepth 100000 in
theorem o_TQ_like : zz_okC p_TQ_like false 11 2 := zz_okV (zz_mem_r (ws := [Cond.code p_TQ_like.y p_TQ_like.bytes p_TQ_like.maxL p_TQ_like.ret, Cond.initialized p_TQ_like.y.cls, Cond.instanceMethod p_TQ_like.y, Cond.selects p_TQ_like.y.cls p_TQ_like.y p_TQ_like.y]) [906, 96, 904, 905] rfl (by decide +kernel)) rfl rfl (by decide +kernel) (by decide +kernel) rfl (by decide +kernel) rfl
def q_TQ_forks : List zz_C := [(0, .aload_n 0, 1, []), (1, .getfield 31, 3, [1103]), (4, .getfield 75, 3, [300]), (7, .iload_n 1, 1, []), (8, .invokevirtual 103, 3, [24]), (11, .ifCond .eq 17, 3, [12]), (14, .aload_n 0, 1, []), (15, .getfield 31, 3, [1103]), (18, .getfield 75, 3, [300]), (21, .iload_n 1, 1, []), (22, .invokevirtual 134, 3, [29]), (25, .goto 5, 3, [13]), (28, .bipush (-2), 2, []), (30, .ireturn, 1, [])]
def p_TQ_forks : zz_P := (134, ⟨"TurnQueues", "forks", "(I)I"⟩, prog_1_method_13_code, 2, (some .int), q_TQ_forks)
set_option maxRecDepth 100000 in
theorem k_TQ_forks : zz_okP p_TQ_forks := ⟨by decide +kernel, zz_mem_r [548, 427, 883, 548, 427, 919] rfl (by decide +kernel)⟩
set_option maxRecDepth 100000 in
theorem o_TQ_forks : zz_okC p_TQ_forks false 11 2 := zz_okV (zz_mem_r (ws := [Cond.code p_TQ_forks.y p_TQ_forks.bytes p_TQ_forks.maxL p_TQ_forks.ret, Cond.initialized p_TQ_forks.y.cls, Cond.instanceMethod p_TQ_forks.y, Cond.selects p_TQ_forks.y.cls p_TQ_forks.y p_TQ_forks.y]) [918, 96, 916, 917] rfl (by decide +kernel)) rfl rfl (by decide +kernel) (by decide +kernel) rfl (by decide +kernel) rfl
def q_TQ_meet : List zz_C := [(0, .aload_n 0, 1, []), (1, .getfield 31, 3, [1103]), (4, .getfield 75, 3, [300]), (7, .astore_n 3, 1, []), (8, .aload_n 3, 1, []), (9, .iload_n 1, 1, []), (10, .invokevirtual 103, 3, [24]), (13, .ifCond .eq 11, 3, [12]), (16, .aload_n 3, 1, []), (17, .iload_n 2, 1, []), (18, .invokevirtual 103, 3, [24]), (21, .ifCond .ne 6, 3, [14]), (24, .bipush (-2), 2, []), (26, .ireturn, 1, []), (27, .aload_n 3, 1, []), (28, .iload_n 1, 1, []), (29, .iload_n 2, 1, []), (30, .invokevirtual 137, 3, [28]), (33, .ireturn, 1, [])]
def p_TQ_meet : zz_P := (135, ⟨"TurnQueues", "meet", "(II)I"⟩, prog_1_method_14_code, 4, (some .int), q_TQ_meet)
set_option maxRecDepth 100000 in
theorem k_TQ_meet : zz_okP p_TQ_meet := ⟨by decide +kernel, zz_mem_r [548, 427, 883, 883, 928] rfl (by decide +kernel)⟩
set_option maxRecDepth 100000 in
theorem o_TQ_meet : zz_okC p_TQ_meet false 11 3 := zz_okV (zz_mem_r (ws := [Cond.code p_TQ_meet.y p_TQ_meet.bytes p_TQ_meet.maxL p_TQ_meet.ret, Cond.initialized p_TQ_meet.y.cls, Cond.instanceMethod p_TQ_meet.y, Cond.selects p_TQ_meet.y.cls p_TQ_meet.y p_TQ_meet.y]) [927, 96, 925, 926] rfl (by decide +kernel)) rfl rfl (by decide +kernel) (by decide +kernel) rfl (by decide +kernel) rfl
def q_TQ_apart : List zz_C := [(0, .aload_n 0, 1, []), (1, .getfield 31, 3, [1103]), (4, .getfield 75, 3, [300]), (7, .astore_n 3, 1, []), (8, .aload_n 3, 1, []), (9, .iload_n 1, 1, []), (10, .invokevirtual 103, 3, [24]), (13, .ifCond .eq 11, 3, [12]), (16, .aload_n 3, 1, []), (17, .iload_n 2, 1, []), (18, .invokevirtual 103, 3, [24]), (21, .ifCond .ne 6, 3, [14]), (24, .bipush (-2), 2, []), (26, .ireturn, 1, []), (27, .aload_n 3, 1, []), (28, .iload_n 1, 1, []), (29, .iload_n 2, 1, []), (30, .invokevirtual 137, 3, [28]), (33, .istore 4, 2, []), (35, .aload_n 3, 1, []), (36, .iload_n 1, 1, []), (37, .invokevirtual 141, 3, [27]), (40, .aload_n 3, 1, []), (41, .iload_n 2, 1, []), (42, .invokevirtual 141, 3, [27]), (45, .iadd, 1, []), (46, .iconst 2, 1, []), (47, .aload_n 3, 1, []), (48, .iload 4, 2, []), (50, .invokevirtual 141, 3, [27]), (53, .imul, 1, []), (54, .isub, 1, []), (55, .ireturn, 1, [])]
def p_TQ_apart : zz_P := (136, ⟨"TurnQueues", "apart", "(II)I"⟩, prog_1_method_15_code, 5, (some .int), q_TQ_apart)
set_option maxRecDepth 100000 in
theorem k_TQ_apart : zz_okP p_TQ_apart := ⟨by decide +kernel, zz_mem_r [548, 427, 883, 883, 928, 940, 940, 940] rfl (by decide +kernel)⟩
set_option maxRecDepth 100000 in
theorem o_TQ_apart : zz_okC p_TQ_apart false 11 3 := zz_okV (zz_mem_r (ws := [Cond.code p_TQ_apart.y p_TQ_apart.bytes p_TQ_apart.maxL p_TQ_apart.ret, Cond.initialized p_TQ_apart.y.cls, Cond.instanceMethod p_TQ_apart.y, Cond.selects p_TQ_apart.y.cls p_TQ_apart.y p_TQ_apart.y]) [939, 96, 937, 938] rfl (by decide +kernel)) rfl rfl (by decide +kernel) (by decide +kernel) rfl (by decide +kernel) rfl
def q_TQ_state : List zz_C := [(0, .aload_n 0, 1, []), (1, .getfield 31, 3, [1103]), (4, .iload_n 1, 1, []), (5, .invokevirtual 144, 3, [34]), (8, .astore_n 3, 1, []), (9, .aload_n 3, 1, []), (10, .ifnonnull 6, 3, [9]), (13, .bipush (-2), 2, []), (15, .ireturn, 1, []), (16, .iload_n 2, 1, []), (17, .tableswitch 84 0 4 #[35, 40, 45, 74, 79], 35, [36, 11, 14, 17, 30, 33]), (52, .aload_n 3, 1, []), (53, .getfield 148, 3, [908]), (56, .ireturn, 1, []), (57, .aload_n 3, 1, []), (58, .getfield 153, 3, [909]), (61, .ireturn, 1, []), (62, .aload_n 0, 1, []), (63, .getfield 31, 3, [1103]), (66, .getfield 75, 3, [300]), (69, .getfield 88, 3, [201]), (72, .iconst 1, 1, []), (73, .if_icmp .ne 10, 3, [26]), (76, .aload_n 3, 1, []), (77, .getfield 156, 3, [907]), (80, .goto 10, 3, [29]), (83, .aload_n 3, 1, []), (84, .getfield 159, 3, [900]), (87, .getfield 163, 3, [701]), (90, .ireturn, 1, []), (91, .aload_n 3, 1, []), (92, .getfield 166, 3, [910]), (95, .ireturn, 1, []), (96, .aload_n 3, 1, []), (97, .getfield 169, 3, [911]), (100, .ireturn, 1, []), (101, .bipush (-2), 2, []), (103, .ireturn, 1, [])]
def p_TQ_state : zz_P := (137, ⟨"TurnQueues", "state", "(II)I"⟩, prog_1_method_16_code, 4, (some .int), q_TQ_state)
set_option maxRecDepth 100000 in
theorem k_TQ_state : zz_okP p_TQ_state := ⟨by decide +kernel, zz_mem_r [548, 948, 372, 376, 548, 427, 163, 369, 341, 330, 380, 384] rfl (by decide +kernel)⟩
set_option maxRecDepth 100000 in
theorem o_TQ_state : zz_okC p_TQ_state false 11 3 := zz_okV (zz_mem_r (ws := [Cond.code p_TQ_state.y p_TQ_state.bytes p_TQ_state.maxL p_TQ_state.ret, Cond.initialized p_TQ_state.y.cls, Cond.instanceMethod p_TQ_state.y, Cond.selects p_TQ_state.y.cls p_TQ_state.y p_TQ_state.y]) [947, 96, 945, 946] rfl (by decide +kernel)) rfl rfl (by decide +kernel) (by decide +kernel) rfl (by decide +kernel) rfl
def q_TQ_row : List zz_C := [(0, .aload_n 0, 1, []), (1, .getfield 31, 3, [1103]), (4, .iload_n 1, 1, []), (5, .iload_n 2, 1, []), (6, .invokevirtual 172, 3, [36]), (9, .astore_n 3, 1, []), (10, .aload_n 3, 1, []), (11, .ifnonnull 8, 3, [10]), (14, .bipush (-2), 2, []), (16, .goto 7, 3, [12]), (19, .aload_n 3, 1, []), (20, .getfield 163, 3, [701]), (23, .ireturn, 1, [])]
def p_TQ_row : zz_P := (138, ⟨"TurnQueues", "row", "(II)I"⟩, prog_1_method_17_code, 4, (some .int), q_TQ_row)
set_option maxRecDepth 100000 in
theorem k_TQ_row : zz_okP p_TQ_row := ⟨by decide +kernel, zz_mem_r [548, 953, 330] rfl (by decide +kernel)⟩
set_option maxRecDepth 100000 in
theorem o_TQ_row : zz_okC p_TQ_row false 11 3 := zz_okV (zz_mem_r (ws := [Cond.code p_TQ_row.y p_TQ_row.bytes p_TQ_row.maxL p_TQ_row.ret, Cond.initialized p_TQ_row.y.cls, Cond.instanceMethod p_TQ_row.y, Cond.selects p_TQ_row.y.cls p_TQ_row.y p_TQ_row.y]) [952, 96, 950, 951] rfl (by decide +kernel)) rfl rfl (by decide +kernel) (by decide +kernel) rfl (by decide +kernel) rfl
def q_TQ_cell : List zz_C := [(0, .aload_n 0, 1, []), (1, .getfield 31, 3, [1103]), (4, .iload_n 1, 1, []), (5, .iload_n 2, 1, []), (6, .invokevirtual 172, 3, [36]), (9, .astore 4, 2, []), (11, .aload 4, 2, []), (13, .ifnull 7, 3, [10]), (16, .iload_n 3, 1, []), (17, .ifCond .ge 6, 3, [12]), (20, .bipush (-2), 2, []), (22, .ireturn, 1, []), (23, .aload_n 0, 1, []), (24, .getfield 31, 3, [1103]), (27, .getfield 176, 3, [302]), (30, .aload_n 0, 1, []), (31, .getfield 31, 3, [1103]), (34, .getfield 176, 3, [302]), (37, .aload 4, 2, []), (39, .iload_n 3, 1, []), (40, .invokevirtual 180, 3, [13]), (43, .invokevirtual 186, 3, [8]), (46, .ireturn, 1, [])]
def p_TQ_cell : zz_P := (139, ⟨"TurnQueues", "cell", "(III)I"⟩, prog_1_method_18_code, 5, (some .int), q_TQ_cell)
set_option maxRecDepth 100000 in
theorem k_TQ_cell : zz_okP p_TQ_cell := ⟨by decide +kernel, zz_mem_r [548, 953, 548, 431, 548, 431, 965, 970] rfl (by decide +kernel)⟩
set_option maxRecDepth 100000 in
theorem o_TQ_cell : zz_okC p_TQ_cell false 11 4 := zz_okV (zz_mem_r (ws := [Cond.code p_TQ_cell.y p_TQ_cell.bytes p_TQ_cell.maxL p_TQ_cell.ret, Cond.initialized p_TQ_cell.y.cls, Cond.instanceMethod p_TQ_cell.y, Cond.selects p_TQ_cell.y.cls p_TQ_cell.y p_TQ_cell.y]) [964, 96, 962, 963] rfl (by decide +kernel)) rfl rfl (by decide +kernel) (by decide +kernel) rfl (by decide +kernel) rfl
def q_TQ_twin : List zz_C := [(0, .aload_n 0, 1, []), (1, .getfield 31, 3, [1103]), (4, .getfield 75, 3, [300]), (7, .iload_n 1, 1, []), (8, .invokevirtual 103, 3, [24]), (11, .ifCond .eq 14, 3, [11]), (14, .aload_n 0, 1, []), (15, .getfield 31, 3, [1103]), (18, .iload_n 1, 1, []), (19, .invokevirtual 189, 3, [53]), (22, .goto 5, 3, [12]), (25, .bipush (-2), 2, []), (27, .ireturn, 1, [])]
def p_TQ_twin : zz_P := (140, ⟨"TurnQueues", "twin", "(I)I"⟩, prog_1_method_19_code, 2, (some .int), q_TQ_twin)
set_option maxRecDepth 100000 in
theorem k_TQ_twin : zz_okP p_TQ_twin := ⟨by decide +kernel, zz_mem_r [548, 427, 883, 548, 975] rfl (by decide +kernel)⟩
set_option maxRecDepth 100000 in
theorem o_TQ_twin : zz_okC p_TQ_twin false 11 2 := zz_okV (zz_mem_r (ws := [Cond.code p_TQ_twin.y p_TQ_twin.bytes p_TQ_twin.maxL p_TQ_twin.ret, Cond.initialized p_TQ_twin.y.cls, Cond.instanceMethod p_TQ_twin.y, Cond.selects p_TQ_twin.y.cls p_TQ_twin.y p_TQ_twin.y]) [974, 96, 972, 973] rfl (by decide +kernel)) rfl rfl (by decide +kernel) (by decide +kernel) rfl (by decide +kernel) rfl
def q_TQ_path : List zz_C := [(0, .aload_n 0, 1, []), (1, .getfield 31, 3, [1103]), (4, .getfield 75, 3, [300]), (7, .iload_n 1, 1, []), (8, .invokevirtual 103, 3, [24]), (11, .ifCond .eq 7, 3, [8]), (14, .iload_n 2, 1, []), (15, .ifCond .ge 6, 3, [10]), (18, .bipush (-2), 2, []), (20, .ireturn, 1, []), (21, .aload_n 0, 1, []), (22, .getfield 31, 3, [1103]), (25, .iconst 0, 1, []), (26, .iload_n 1, 1, []), (27, .invokevirtual 192, 3, [42]), (30, .istore_n 3, 1, []), (31, .iload_n 2, 1, []), (32, .ifCond .ne 5, 3, [20]), (35, .iconst 0, 1, []), (36, .ireturn, 1, []), (37, .iload_n 2, 1, []), (38, .iload_n 3, 1, []), (39, .if_icmp .gt 18, 3, [32]), (42, .aload_n 0, 1, []), (43, .getfield 31, 3, [1103]), (46, .iload_n 2, 1, []), (47, .iconst 1, 1, []), (48, .isub, 1, []), (49, .invokevirtual 195, 3, [43]), (52, .iconst 1, 1, []), (53, .iadd, 1, []), (54, .goto 4, 3, [33]), (57, .iconst (-1), 1, []), (58, .ireturn, 1, [])]
def p_TQ_path : zz_P := (141, ⟨"TurnQueues", "path", "(II)I"⟩, prog_1_method_20_code, 4, (some .int), q_TQ_path)
set_option maxRecDepth 100000 in
theorem k_TQ_path : zz_okP p_TQ_path := ⟨by decide +kernel, zz_mem_r [548, 427, 883, 548, 1028, 548, 1034] rfl (by decide +kernel)⟩
set_option maxRecDepth 100000 in
theorem o_TQ_path : zz_okC p_TQ_path false 11 3 := zz_okV (zz_mem_r (ws := [Cond.code p_TQ_path.y p_TQ_path.bytes p_TQ_path.maxL p_TQ_path.ret, Cond.initialized p_TQ_path.y.cls, Cond.instanceMethod p_TQ_path.y, Cond.selects p_TQ_path.y.cls p_TQ_path.y p_TQ_path.y]) [1027, 96, 1025, 1026] rfl (by decide +kernel)) rfl rfl (by decide +kernel) (by decide +kernel) rfl (by decide +kernel) rfl
def q_TQ_along : List zz_C := [(0, .aload_n 0, 1, []), (1, .getfield 31, 3, [1103]), (4, .getfield 75, 3, [300]), (7, .iload_n 1, 1, []), (8, .invokevirtual 103, 3, [24]), (11, .ifCond .ne 6, 3, [8]), (14, .bipush (-2), 2, []), (16, .ireturn, 1, []), (17, .aload_n 0, 1, []), (18, .getfield 31, 3, [1103]), (21, .iconst 0, 1, []), (22, .iload_n 1, 1, []), (23, .invokevirtual 192, 3, [42]), (26, .istore_n 3, 1, []), (27, .iload_n 2, 1, []), (28, .tableswitch 48 0 2 #[28, 30, 39], 28, [28, 16, 18, 23]), (56, .iload_n 3, 1, []), (57, .ireturn, 1, []), (58, .aload_n 0, 1, []), (59, .getfield 31, 3, [1103]), (62, .iload_n 3, 1, []), (63, .invokevirtual 198, 3, [44]), (66, .ireturn, 1, []), (67, .aload_n 0, 1, []), (68, .getfield 31, 3, [1103]), (71, .iload_n 3, 1, []), (72, .invokevirtual 201, 3, [45]), (75, .ireturn, 1, []), (76, .bipush (-2), 2, []), (78, .ireturn, 1, [])]
def p_TQ_along : zz_P := (142, ⟨"TurnQueues", "along", "(II)I"⟩, prog_1_method_21_code, 4, (some .int), q_TQ_along)
set_option maxRecDepth 100000 in
theorem k_TQ_along : zz_okP p_TQ_along := ⟨by decide +kernel, zz_mem_r [548, 427, 883, 548, 1028, 548, 1042, 548, 1051] rfl (by decide +kernel)⟩
set_option maxRecDepth 100000 in
theorem o_TQ_along : zz_okC p_TQ_along false 11 3 := zz_okV (zz_mem_r (ws := [Cond.code p_TQ_along.y p_TQ_along.bytes p_TQ_along.maxL p_TQ_along.ret, Cond.initialized p_TQ_along.y.cls, Cond.instanceMethod p_TQ_along.y, Cond.selects p_TQ_along.y.cls p_TQ_along.y p_TQ_along.y]) [1041, 96, 1039, 1040] rfl (by decide +kernel)) rfl rfl (by decide +kernel) (by decide +kernel) rfl (by decide +kernel) rfl
def q_TQ_origin : List zz_C := [(0, .aload_n 0, 1, []), (1, .getfield 31, 3, [1103]), (4, .iload_n 1, 1, []), (5, .iload_n 2, 1, []), (6, .invokevirtual 172, 3, [36]), (9, .astore 4, 2, []), (11, .aload 4, 2, []), (13, .ifnull 7, 3, [10]), (16, .iload_n 3, 1, []), (17, .ifCond .ge 6, 3, [12]), (20, .bipush (-2), 2, []), (22, .ireturn, 1, []), (23, .aload_n 0, 1, []), (24, .getfield 31, 3, [1103]), (27, .getfield 176, 3, [302]), (30, .aload_n 0, 1, []), (31, .getfield 31, 3, [1103]), (34, .getfield 176, 3, [302]), (37, .aload 4, 2, []), (39, .iload_n 3, 1, []), (40, .invokevirtual 180, 3, [13]), (43, .invokevirtual 204, 3, [9]), (46, .ireturn, 1, [])]
def p_TQ_origin : zz_P := (143, ⟨"TurnQueues", "origin", "(III)I"⟩, prog_1_method_22_code, 5, (some .int), q_TQ_origin)
set_option maxRecDepth 100000 in
theorem k_TQ_origin : zz_okP p_TQ_origin := ⟨by decide +kernel, zz_mem_r [548, 953, 548, 431, 548, 431, 965, 1060] rfl (by decide +kernel)⟩
set_option maxRecDepth 100000 in
theorem o_TQ_origin : zz_okC p_TQ_origin false 11 4 := zz_okV (zz_mem_r (ws := [Cond.code p_TQ_origin.y p_TQ_origin.bytes p_TQ_origin.maxL p_TQ_origin.ret, Cond.initialized p_TQ_origin.y.cls, Cond.instanceMethod p_TQ_origin.y, Cond.selects p_TQ_origin.y.cls p_TQ_origin.y p_TQ_origin.y]) [1059, 96, 1057, 1058] rfl (by decide +kernel)) rfl rfl (by decide +kernel) (by decide +kernel) rfl (by decide +kernel) rfl
def q_TQ_from : List zz_C := [(0, .aload_n 0, 1, []), (1, .getfield 31, 3, [1103]), (4, .iload_n 1, 1, []), (5, .invokevirtual 144, 3, [34]), (8, .astore_n 3, 1, []), (9, .aload_n 3, 1, []), (10, .ifnull 17, 3, [13]), (13, .aload_n 0, 1, []), (14, .getfield 31, 3, [1103]), (17, .getfield 75, 3, [300]), (20, .iload_n 2, 1, []), (21, .invokevirtual 107, 3, [25]), (24, .ifCond .ne 6, 3, [15]), (27, .bipush (-2), 2, []), (29, .ireturn, 1, []), (30, .aload_n 0, 1, []), (31, .getfield 31, 3, [1103]), (34, .getfield 176, 3, [302]), (37, .invokevirtual 207, 3, [14]), (40, .aload_n 0, 1, []), (41, .getfield 31, 3, [1103]), (44, .getfield 176, 3, [302]), (47, .aload_n 3, 1, []), (48, .iload_n 2, 1, []), (49, .invokevirtual 210, 3, [15]), (52, .ireturn, 1, [])]
def p_TQ_from : zz_P := (144, ⟨"TurnQueues", "from", "(II)I"⟩, prog_1_method_23_code, 4, (some .int), q_TQ_from)
set_option maxRecDepth 100000 in
theorem k_TQ_from : zz_okP p_TQ_from := ⟨by decide +kernel, zz_mem_r [548, 948, 548, 427, 884, 548, 431, 1068, 548, 431, 1072] rfl (by decide +kernel)⟩
set_option maxRecDepth 100000 in
theorem o_TQ_from : zz_okC p_TQ_from false 11 3 := zz_okV (zz_mem_r (ws := [Cond.code p_TQ_from.y p_TQ_from.bytes p_TQ_from.maxL p_TQ_from.ret, Cond.initialized p_TQ_from.y.cls, Cond.instanceMethod p_TQ_from.y, Cond.selects p_TQ_from.y.cls p_TQ_from.y p_TQ_from.y]) [1067, 96, 1065, 1066] rfl (by decide +kernel)) rfl rfl (by decide +kernel) (by decide +kernel) rfl (by decide +kernel) rfl
def q_TQ_lost : List zz_C := [(0, .aload_n 0, 1, []), (1, .getfield 31, 3, [1103]), (4, .getfield 75, 3, [300]), (7, .getfield 214, 3, [200]), (10, .ifCond .ne 6, 3, [7]), (13, .bipush (-2), 2, []), (15, .ireturn, 1, []), (16, .aload_n 0, 1, []), (17, .getfield 31, 3, [1103]), (20, .getfield 176, 3, [302]), (23, .getfield 218, 3, [100]), (26, .aload_n 0, 1, []), (27, .getfield 31, 3, [1103]), (30, .invokevirtual 221, 3, [50]), (33, .isub, 1, []), (34, .ireturn, 1, [])]
def p_TQ_lost : zz_P := (145, ⟨"TurnQueues", "lost", "()I"⟩, prog_1_method_24_code, 1, (some .int), q_TQ_lost)
set_option maxRecDepth 100000 in
theorem k_TQ_lost : zz_okP p_TQ_lost := ⟨by decide +kernel, zz_mem_r [548, 427, 157, 548, 431, 258, 548, 1084] rfl (by decide +kernel)⟩
set_option maxRecDepth 100000 in
theorem o_TQ_lost : zz_okC p_TQ_lost false 11 1 := zz_okV (zz_mem_r (ws := [Cond.code p_TQ_lost.y p_TQ_lost.bytes p_TQ_lost.maxL p_TQ_lost.ret, Cond.initialized p_TQ_lost.y.cls, Cond.instanceMethod p_TQ_lost.y, Cond.selects p_TQ_lost.y.cls p_TQ_lost.y p_TQ_lost.y]) [1083, 96, 1081, 1082] rfl (by decide +kernel)) rfl rfl (by decide +kernel) (by decide +kernel) rfl (by decide +kernel) rfl
def q_TQ_holds : List zz_C := [(0, .aload_n 0, 1, []), (1, .getfield 31, 3, [1103]), (4, .iload_n 1, 1, []), (5, .invokevirtual 144, 3, [34]), (8, .astore_n 2, 1, []), (9, .aload_n 2, 1, []), (10, .ifnonnull 6, 3, [9]), (13, .bipush (-2), 2, []), (15, .ireturn, 1, []), (16, .aload_n 0, 1, []), (17, .getfield 31, 3, [1103]), (20, .getfield 176, 3, [302]), (23, .invokevirtual 207, 3, [14]), (26, .aload_n 0, 1, []), (27, .getfield 31, 3, [1103]), (30, .getfield 176, 3, [302]), (33, .aload_n 2, 1, []), (34, .iconst (-1), 1, []), (35, .invokevirtual 210, 3, [15]), (38, .ireturn, 1, [])]
def p_TQ_holds : zz_P := (146, ⟨"TurnQueues", "holds", "(I)I"⟩, prog_1_method_25_code, 3, (some .int), q_TQ_holds)
set_option maxRecDepth 100000 in
theorem k_TQ_holds : zz_okP p_TQ_holds := ⟨by decide +kernel, zz_mem_r [548, 948, 548, 431, 1068, 548, 431, 1072] rfl (by decide +kernel)⟩
set_option maxRecDepth 100000 in
theorem o_TQ_holds : zz_okC p_TQ_holds false 11 2 := zz_okV (zz_mem_r (ws := [Cond.code p_TQ_holds.y p_TQ_holds.bytes p_TQ_holds.maxL p_TQ_holds.ret, Cond.initialized p_TQ_holds.y.cls, Cond.instanceMethod p_TQ_holds.y, Cond.selects p_TQ_holds.y.cls p_TQ_holds.y p_TQ_holds.y]) [1098, 96, 1096, 1097] rfl (by decide +kernel)) rfl rfl (by decide +kernel) (by decide +kernel) rfl (by decide +kernel) rfl
def q_TQ_shares : List zz_C := [(0, .aload_n 0, 1, []), (1, .getfield 31, 3, [1103]), (4, .iload_n 1, 1, []), (5, .invokevirtual 144, 3, [34]), (8, .astore_n 3, 1, []), (9, .aload_n 0, 1, []), (10, .getfield 31, 3, [1103]), (13, .iload_n 2, 1, []), (14, .invokevirtual 144, 3, [34]), (17, .astore 4, 2, []), (19, .aload_n 3, 1, []), (20, .ifnull 8, 3, [14]), (23, .aload 4, 2, []), (25, .ifnonnull 6, 3, [16]), (28, .bipush (-2), 2, []), (30, .ireturn, 1, []), (31, .aload_n 0, 1, []), (32, .getfield 31, 3, [1103]), (35, .getfield 176, 3, [302]), (38, .invokevirtual 207, 3, [14]), (41, .aload_n 0, 1, []), (42, .getfield 31, 3, [1103]), (45, .getfield 176, 3, [302]), (48, .aload_n 3, 1, []), (49, .iconst (-1), 1, []), (50, .invokevirtual 210, 3, [15]), (53, .aload_n 0, 1, []), (54, .getfield 31, 3, [1103]), (57, .getfield 176, 3, [302]), (60, .aload 4, 2, []), (62, .iconst (-1), 1, []), (63, .invokevirtual 210, 3, [15]), (66, .iadd, 1, []), (67, .istore 5, 2, []), (69, .aload_n 0, 1, []), (70, .iload_n 1, 1, []), (71, .invokevirtual 224, 3, [146]), (74, .aload_n 0, 1, []), (75, .iload_n 2, 1, []), (76, .invokevirtual 224, 3, [146]), (79, .iadd, 1, []), (80, .iload 5, 2, []), (82, .isub, 1, []), (83, .ireturn, 1, [])]
def p_TQ_shares : zz_P := (147, ⟨"TurnQueues", "shares", "(II)I"⟩, prog_1_method_26_code, 6, (some .int), q_TQ_shares)
set_option maxRecDepth 100000 in
theorem k_TQ_shares : zz_okP p_TQ_shares := ⟨by decide +kernel, zz_mem_r [548, 948, 548, 948, 548, 431, 1068, 548, 431, 1072, 548, 431, 1072, 1103, 1103] rfl (by decide +kernel)⟩
set_option maxRecDepth 100000 in
theorem o_TQ_shares : zz_okC p_TQ_shares false 11 3 := zz_okV (zz_mem_r (ws := [Cond.code p_TQ_shares.y p_TQ_shares.bytes p_TQ_shares.maxL p_TQ_shares.ret, Cond.initialized p_TQ_shares.y.cls, Cond.instanceMethod p_TQ_shares.y, Cond.selects p_TQ_shares.y.cls p_TQ_shares.y p_TQ_shares.y]) [1102, 96, 1100, 1101] rfl (by decide +kernel)) rfl rfl (by decide +kernel) (by decide +kernel) rfl (by decide +kernel) rfl
def q_TQ_held : List zz_C := [(0, .aload_n 0, 1, []), (1, .getfield 31, 3, [1103]), (4, .getfield 75, 3, [300]), (7, .getfield 214, 3, [200]), (10, .ifCond .eq 20, 3, [14]), (13, .lload_n 1, 1, []), (14, .aload_n 0, 1, []), (15, .getfield 31, 3, [1103]), (18, .getfield 75, 3, [300]), (21, .invokevirtual 94, 3, [21]), (24, .lushr, 1, []), (25, .lconst 0, 1, []), (26, .lcmp, 1, []), (27, .ifCond .eq 6, 3, [16]), (30, .bipush (-2), 2, []), (32, .ireturn, 1, []), (33, .aload_n 0, 1, []), (34, .getfield 31, 3, [1103]), (37, .lload_n 1, 1, []), (38, .invokevirtual 227, 3, [51]), (41, .ireturn, 1, [])]
def p_TQ_held : zz_P := (148, ⟨"TurnQueues", "held", "(J)I"⟩, prog_1_method_27_code, 3, (some .int), q_TQ_held)
set_option maxRecDepth 100000 in
theorem k_TQ_held : zz_okP p_TQ_held := ⟨by decide +kernel, zz_mem_r [548, 427, 157, 548, 427, 874, 548, 1108] rfl (by decide +kernel)⟩
set_option maxRecDepth 100000 in
theorem o_TQ_held : zz_okC p_TQ_held false 11 2 := zz_okV (zz_mem_r (ws := [Cond.code p_TQ_held.y p_TQ_held.bytes p_TQ_held.maxL p_TQ_held.ret, Cond.initialized p_TQ_held.y.cls, Cond.instanceMethod p_TQ_held.y, Cond.selects p_TQ_held.y.cls p_TQ_held.y p_TQ_held.y]) [1107, 96, 1105, 1106] rfl (by decide +kernel)) rfl rfl (by decide +kernel) (by decide +kernel) rfl (by decide +kernel) rfl
def q_TQ_made : List zz_C := [(0, .aload_n 0, 1, []), (1, .getfield 31, 3, [1103]), (4, .getfield 75, 3, [300]), (7, .getfield 214, 3, [200]), (10, .ifCond .eq 16, 3, [10]), (13, .aload_n 0, 1, []), (14, .getfield 31, 3, [1103]), (17, .getfield 176, 3, [302]), (20, .getfield 218, 3, [100]), (23, .goto 5, 3, [11]), (26, .bipush (-2), 2, []), (28, .ireturn, 1, [])]
def p_TQ_made : zz_P := (149, ⟨"TurnQueues", "made", "()I"⟩, prog_1_method_28_code, 1, (some .int), q_TQ_made)
set_option maxRecDepth 100000 in
theorem k_TQ_made : zz_okP p_TQ_made := ⟨by decide +kernel, zz_mem_r [548, 427, 157, 548, 431, 258] rfl (by decide +kernel)⟩
set_option maxRecDepth 100000 in
theorem o_TQ_made : zz_okC p_TQ_made false 11 1 := zz_okV (zz_mem_r (ws := [Cond.code p_TQ_made.y p_TQ_made.bytes p_TQ_made.maxL p_TQ_made.ret, Cond.initialized p_TQ_made.y.cls, Cond.instanceMethod p_TQ_made.y, Cond.selects p_TQ_made.y.cls p_TQ_made.y p_TQ_made.y]) [1112, 96, 1110, 1111] rfl (by decide +kernel)) rfl rfl (by decide +kernel) (by decide +kernel) rfl (by decide +kernel) rfl
def q_TQ_spent : List zz_C := [(0, .aload_n 0, 1, []), (1, .getfield 31, 3, [1103]), (4, .getfield 75, 3, [300]), (7, .iload_n 1, 1, []), (8, .invokevirtual 107, 3, [25]), (11, .ifCond .eq 14, 3, [11]), (14, .aload_n 0, 1, []), (15, .getfield 31, 3, [1103]), (18, .iload_n 1, 1, []), (19, .invokevirtual 231, 3, [46]), (22, .goto 5, 3, [12]), (25, .bipush (-2), 2, []), (27, .ireturn, 1, [])]
def p_TQ_spent : zz_P := (150, ⟨"TurnQueues", "spent", "(I)I"⟩, prog_1_method_29_code, 2, (some .int), q_TQ_spent)
set_option maxRecDepth 100000 in
theorem k_TQ_spent : zz_okP p_TQ_spent := ⟨by decide +kernel, zz_mem_r [548, 427, 884, 548, 1117] rfl (by decide +kernel)⟩
set_option maxRecDepth 100000 in
theorem o_TQ_spent : zz_okC p_TQ_spent false 11 2 := zz_okV (zz_mem_r (ws := [Cond.code p_TQ_spent.y p_TQ_spent.bytes p_TQ_spent.maxL p_TQ_spent.ret, Cond.initialized p_TQ_spent.y.cls, Cond.instanceMethod p_TQ_spent.y, Cond.selects p_TQ_spent.y.cls p_TQ_spent.y p_TQ_spent.y]) [1116, 96, 1114, 1115] rfl (by decide +kernel)) rfl rfl (by decide +kernel) (by decide +kernel) rfl (by decide +kernel) rfl
def q_TQ_ledger : List zz_C := [(0, .aload_n 0, 1, []), (1, .getfield 31, 3, [1103]), (4, .getfield 75, 3, [300]), (7, .getfield 214, 3, [200]), (10, .ifCond .eq 13, 3, [9]), (13, .aload_n 0, 1, []), (14, .getfield 31, 3, [1103]), (17, .invokevirtual 234, 3, [47]), (20, .goto 5, 3, [10]), (23, .bipush (-2), 2, []), (25, .ireturn, 1, [])]
def p_TQ_ledger : zz_P := (151, ⟨"TurnQueues", "ledger", "()I"⟩, prog_1_method_30_code, 1, (some .int), q_TQ_ledger)
set_option maxRecDepth 100000 in
theorem k_TQ_ledger : zz_okP p_TQ_ledger := ⟨by decide +kernel, zz_mem_r [548, 427, 157, 548, 1122] rfl (by decide +kernel)⟩
set_option maxRecDepth 100000 in
theorem o_TQ_ledger : zz_okC p_TQ_ledger false 11 1 := zz_okV (zz_mem_r (ws := [Cond.code p_TQ_ledger.y p_TQ_ledger.bytes p_TQ_ledger.maxL p_TQ_ledger.ret, Cond.initialized p_TQ_ledger.y.cls, Cond.instanceMethod p_TQ_ledger.y, Cond.selects p_TQ_ledger.y.cls p_TQ_ledger.y p_TQ_ledger.y]) [1121, 96, 1119, 1120] rfl (by decide +kernel)) rfl rfl (by decide +kernel) (by decide +kernel) rfl (by decide +kernel) rfl
def q_TQ_dearest : List zz_C := [(0, .aload_n 0, 1, []), (1, .getfield 31, 3, [1103]), (4, .getfield 75, 3, [300]), (7, .getfield 214, 3, [200]), (10, .ifCond .eq 13, 3, [9]), (13, .aload_n 0, 1, []), (14, .getfield 31, 3, [1103]), (17, .invokevirtual 237, 3, [48]), (20, .goto 5, 3, [10]), (23, .bipush (-2), 2, []), (25, .ireturn, 1, [])]
def p_TQ_dearest : zz_P := (152, ⟨"TurnQueues", "dearest", "()I"⟩, prog_1_method_31_code, 1, (some .int), q_TQ_dearest)
set_option maxRecDepth 100000 in
theorem k_TQ_dearest : zz_okP p_TQ_dearest := ⟨by decide +kernel, zz_mem_r [548, 427, 157, 548, 1130] rfl (by decide +kernel)⟩
set_option maxRecDepth 100000 in
theorem o_TQ_dearest : zz_okC p_TQ_dearest false 11 1 := zz_okV (zz_mem_r (ws := [Cond.code p_TQ_dearest.y p_TQ_dearest.bytes p_TQ_dearest.maxL p_TQ_dearest.ret, Cond.initialized p_TQ_dearest.y.cls, Cond.instanceMethod p_TQ_dearest.y, Cond.selects p_TQ_dearest.y.cls p_TQ_dearest.y p_TQ_dearest.y]) [1129, 96, 1127, 1128] rfl (by decide +kernel)) rfl rfl (by decide +kernel) (by decide +kernel) rfl (by decide +kernel) rfl
def q_TQ_overdue : List zz_C := [(0, .aload_n 0, 1, []), (1, .getfield 31, 3, [1103]), (4, .getfield 75, 3, [300]), (7, .getfield 214, 3, [200]), (10, .ifCond .eq 13, 3, [9]), (13, .aload_n 0, 1, []), (14, .getfield 31, 3, [1103]), (17, .invokevirtual 240, 3, [49]), (20, .goto 5, 3, [10]), (23, .bipush (-2), 2, []), (25, .ireturn, 1, [])]
def p_TQ_overdue : zz_P := (153, ⟨"TurnQueues", "overdue", "()I"⟩, prog_1_method_32_code, 1, (some .int), q_TQ_overdue)
set_option maxRecDepth 100000 in
theorem k_TQ_overdue : zz_okP p_TQ_overdue := ⟨by decide +kernel, zz_mem_r [548, 427, 157, 548, 1138] rfl (by decide +kernel)⟩
set_option maxRecDepth 100000 in
theorem o_TQ_overdue : zz_okC p_TQ_overdue false 11 1 := zz_okV (zz_mem_r (ws := [Cond.code p_TQ_overdue.y p_TQ_overdue.bytes p_TQ_overdue.maxL p_TQ_overdue.ret, Cond.initialized p_TQ_overdue.y.cls, Cond.instanceMethod p_TQ_overdue.y, Cond.selects p_TQ_overdue.y.cls p_TQ_overdue.y p_TQ_overdue.y]) [1137, 96, 1135, 1136] rfl (by decide +kernel)) rfl rfl (by decide +kernel) (by decide +kernel) rfl (by decide +kernel) rfl
def q_TQ_by : List zz_C := [(0, .aload_n 0, 1, []), (1, .getfield 31, 3, [1103]), (4, .getfield 75, 3, [300]), (7, .iload_n 1, 1, []), (8, .invokevirtual 243, 3, [30]), (11, .istore_n 2, 1, []), (12, .iload_n 2, 1, []), (13, .ifCond .ge 7, 3, [10]), (16, .iload_n 2, 1, []), (17, .goto 28, 3, [21]), (20, .aload_n 0, 1, []), (21, .getfield 38, 3, [1104]), (24, .aload_n 0, 1, []), (25, .getfield 31, 3, [1103]), (28, .getfield 75, 3, [300]), (31, .iload_n 1, 1, []), (32, .aload_n 0, 1, []), (33, .getfield 31, 3, [1103]), (36, .getfield 75, 3, [300]), (39, .getfield 91, 3, [202]), (42, .invokevirtual 246, 3, [113]), (45, .ireturn, 1, [])]
def p_TQ_by : zz_P := (154, ⟨"TurnQueues", "by", "(I)I"⟩, prog_1_method_33_code, 3, (some .int), q_TQ_by)
set_option maxRecDepth 100000 in
theorem k_TQ_by : zz_okP p_TQ_by := ⟨by decide +kernel, zz_mem_r [548, 427, 1146, 549, 548, 427, 548, 427, 169, 1150] rfl (by decide +kernel)⟩
set_option maxRecDepth 100000 in
theorem o_TQ_by : zz_okC p_TQ_by false 11 2 := zz_okV (zz_mem_r (ws := [Cond.code p_TQ_by.y p_TQ_by.bytes p_TQ_by.maxL p_TQ_by.ret, Cond.initialized p_TQ_by.y.cls, Cond.instanceMethod p_TQ_by.y, Cond.selects p_TQ_by.y.cls p_TQ_by.y p_TQ_by.y]) [1145, 96, 1143, 1144] rfl (by decide +kernel)) rfl rfl (by decide +kernel) (by decide +kernel) rfl (by decide +kernel) rfl
def q_TQ_peak : List zz_C := [(0, .aload_n 0, 1, []), (1, .getfield 31, 3, [1103]), (4, .getfield 75, 3, [300]), (7, .iload_n 1, 1, []), (8, .invokevirtual 243, 3, [30]), (11, .istore_n 2, 1, []), (12, .iload_n 2, 1, []), (13, .ifCond .ge 5, 3, [10]), (16, .iload_n 2, 1, []), (17, .ireturn, 1, []), (18, .aload_n 0, 1, []), (19, .getfield 38, 3, [1104]), (22, .aload_n 0, 1, []), (23, .getfield 31, 3, [1103]), (26, .getfield 75, 3, [300]), (29, .iload_n 1, 1, []), (30, .aload_n 0, 1, []), (31, .getfield 31, 3, [1103]), (34, .getfield 75, 3, [300]), (37, .getfield 91, 3, [202]), (40, .invokevirtual 246, 3, [113]), (43, .pop, 1, []), (44, .aload_n 0, 1, []), (45, .getfield 38, 3, [1104]), (48, .getfield 249, 3, [1000]), (51, .ireturn, 1, [])]
def p_TQ_peak : zz_P := (155, ⟨"TurnQueues", "peak", "(I)I"⟩, prog_1_method_34_code, 3, (some .int), q_TQ_peak)
set_option maxRecDepth 100000 in
theorem k_TQ_peak : zz_okP p_TQ_peak := ⟨by decide +kernel, zz_mem_r [548, 427, 1146, 549, 548, 427, 548, 427, 169, 1150, 549, 476] rfl (by decide +kernel)⟩
set_option maxRecDepth 100000 in
theorem o_TQ_peak : zz_okC p_TQ_peak false 11 2 := zz_okV (zz_mem_r (ws := [Cond.code p_TQ_peak.y p_TQ_peak.bytes p_TQ_peak.maxL p_TQ_peak.ret, Cond.initialized p_TQ_peak.y.cls, Cond.instanceMethod p_TQ_peak.y, Cond.selects p_TQ_peak.y.cls p_TQ_peak.y p_TQ_peak.y]) [1163, 96, 1161, 1162] rfl (by decide +kernel)) rfl rfl (by decide +kernel) (by decide +kernel) rfl (by decide +kernel) rfl
def q_TQ_balanced : List zz_C := [(0, .aload_n 0, 1, []), (1, .getfield 31, 3, [1103]), (4, .getfield 75, 3, [300]), (7, .getfield 214, 3, [200]), (10, .ifCond .eq 13, 3, [11]), (13, .iload_n 1, 1, []), (14, .iconst 2, 1, []), (15, .if_icmp .lt 8, 3, [11]), (18, .iload_n 1, 1, []), (19, .iconst 4, 1, []), (20, .if_icmp .le 6, 3, [13]), (23, .bipush (-2), 2, []), (25, .ireturn, 1, []), (26, .aload_n 0, 1, []), (27, .getfield 38, 3, [1104]), (30, .aload_n 0, 1, []), (31, .getfield 31, 3, [1103]), (34, .getfield 75, 3, [300]), (37, .iconst 2, 1, []), (38, .iload_n 1, 1, []), (39, .invokevirtual 246, 3, [113]), (42, .ireturn, 1, [])]
def p_TQ_balanced : zz_P := (156, ⟨"TurnQueues", "balanced", "(I)I"⟩, prog_1_method_35_code, 2, (some .int), q_TQ_balanced)
set_option maxRecDepth 100000 in
theorem k_TQ_balanced : zz_okP p_TQ_balanced := ⟨by decide +kernel, zz_mem_r [548, 427, 157, 549, 548, 427, 1150] rfl (by decide +kernel)⟩
set_option maxRecDepth 100000 in
theorem o_TQ_balanced : zz_okC p_TQ_balanced false 11 2 := zz_okV (zz_mem_r (ws := [Cond.code p_TQ_balanced.y p_TQ_balanced.bytes p_TQ_balanced.maxL p_TQ_balanced.ret, Cond.initialized p_TQ_balanced.y.cls, Cond.instanceMethod p_TQ_balanced.y, Cond.selects p_TQ_balanced.y.cls p_TQ_balanced.y p_TQ_balanced.y]) [1167, 96, 1165, 1166] rfl (by decide +kernel)) rfl rfl (by decide +kernel) (by decide +kernel) rfl (by decide +kernel) rfl
def q_TQ_balance : List zz_C := [(0, .aload_n 0, 1, []), (1, .getfield 31, 3, [1103]), (4, .getfield 75, 3, [300]), (7, .getfield 214, 3, [200]), (10, .ifCond .eq 20, 3, [12]), (13, .aload_n 0, 1, []), (14, .getfield 38, 3, [1104]), (17, .aload_n 0, 1, []), (18, .getfield 31, 3, [1103]), (21, .getfield 75, 3, [300]), (24, .invokevirtual 252, 3, [114]), (27, .goto 5, 3, [13]), (30, .bipush (-2), 2, []), (32, .ireturn, 1, [])]
def p_TQ_balance : zz_P := (157, ⟨"TurnQueues", "balance", "()I"⟩, prog_1_method_36_code, 1, (some .int), q_TQ_balance)
set_option maxRecDepth 100000 in
theorem k_TQ_balance : zz_okP p_TQ_balance := ⟨by decide +kernel, zz_mem_r [548, 427, 157, 549, 548, 427, 1172] rfl (by decide +kernel)⟩
set_option maxRecDepth 100000 in
theorem o_TQ_balance : zz_okC p_TQ_balance false 11 1 := zz_okV (zz_mem_r (ws := [Cond.code p_TQ_balance.y p_TQ_balance.bytes p_TQ_balance.maxL p_TQ_balance.ret, Cond.initialized p_TQ_balance.y.cls, Cond.instanceMethod p_TQ_balance.y, Cond.selects p_TQ_balance.y.cls p_TQ_balance.y p_TQ_balance.y]) [1171, 96, 1169, 1170] rfl (by decide +kernel)) rfl rfl (by decide +kernel) (by decide +kernel) rfl (by decide +kernel) rfl
def q_TQ_until : List zz_C := [(0, .aload_n 0, 1, []), (1, .getfield 31, 3, [1103]), (4, .iload_n 1, 1, []), (5, .invokevirtual 144, 3, [34]), (8, .astore_n 2, 1, []), (9, .aload_n 2, 1, []), (10, .ifnonnull 8, 3, [9]), (13, .bipush (-2), 2, []), (15, .goto 18, 3, [16]), (18, .aload_n 0, 1, []), (19, .getfield 38, 3, [1104]), (22, .aload_n 0, 1, []), (23, .getfield 31, 3, [1103]), (26, .getfield 75, 3, [300]), (29, .aload_n 2, 1, []), (30, .invokevirtual 256, 3, [115]), (33, .ireturn, 1, [])]
def p_TQ_until : zz_P := (158, ⟨"TurnQueues", "until", "(I)I"⟩, prog_1_method_37_code, 3, (some .int), q_TQ_until)
set_option maxRecDepth 100000 in
theorem k_TQ_until : zz_okP p_TQ_until := ⟨by decide +kernel, zz_mem_r [548, 948, 549, 548, 427, 1181] rfl (by decide +kernel)⟩
set_option maxRecDepth 100000 in
theorem o_TQ_until : zz_okC p_TQ_until false 11 2 := zz_okV (zz_mem_r (ws := [Cond.code p_TQ_until.y p_TQ_until.bytes p_TQ_until.maxL p_TQ_until.ret, Cond.initialized p_TQ_until.y.cls, Cond.instanceMethod p_TQ_until.y, Cond.selects p_TQ_until.y.cls p_TQ_until.y p_TQ_until.y]) [1180, 96, 1178, 1179] rfl (by decide +kernel)) rfl rfl (by decide +kernel) (by decide +kernel) rfl (by decide +kernel) rfl
def q_TQ_rest : List zz_C := [(0, .aload_n 0, 1, []), (1, .getfield 31, 3, [1103]), (4, .iload_n 1, 1, []), (5, .invokevirtual 144, 3, [34]), (8, .astore_n 2, 1, []), (9, .aload_n 2, 1, []), (10, .ifnonnull 8, 3, [9]), (13, .bipush (-2), 2, []), (15, .goto 18, 3, [16]), (18, .aload_n 0, 1, []), (19, .getfield 38, 3, [1104]), (22, .aload_n 0, 1, []), (23, .getfield 31, 3, [1103]), (26, .getfield 75, 3, [300]), (29, .aload_n 2, 1, []), (30, .invokevirtual 260, 3, [116]), (33, .ireturn, 1, [])]
def p_TQ_rest : zz_P := (159, ⟨"TurnQueues", "rest", "(I)I"⟩, prog_1_method_38_code, 3, (some .int), q_TQ_rest)
set_option maxRecDepth 100000 in
theorem k_TQ_rest : zz_okP p_TQ_rest := ⟨by decide +kernel, zz_mem_r [548, 948, 549, 548, 427, 1193] rfl (by decide +kernel)⟩
set_option maxRecDepth 100000 in
theorem o_TQ_rest : zz_okC p_TQ_rest false 11 2 := zz_okV (zz_mem_r (ws := [Cond.code p_TQ_rest.y p_TQ_rest.bytes p_TQ_rest.maxL p_TQ_rest.ret, Cond.initialized p_TQ_rest.y.cls, Cond.instanceMethod p_TQ_rest.y, Cond.selects p_TQ_rest.y.cls p_TQ_rest.y p_TQ_rest.y]) [1192, 96, 1190, 1191] rfl (by decide +kernel)) rfl rfl (by decide +kernel) (by decide +kernel) rfl (by decide +kernel) rfl
def q_TQ_worst : List zz_C := [(0, .aload_n 0, 1, []), (1, .getfield 31, 3, [1103]), (4, .iload_n 1, 1, []), (5, .invokevirtual 144, 3, [34]), (8, .astore 4, 2, []), (10, .aload 4, 2, []), (12, .ifnull 14, 3, [13]), (15, .iload_n 2, 1, []), (16, .iconst 1, 1, []), (17, .if_icmp .lt 9, 3, [13]), (20, .iload_n 2, 1, []), (21, .bipush 6, 2, []), (23, .if_icmp .le 6, 3, [15]), (26, .bipush (-2), 2, []), (28, .ireturn, 1, []), (29, .aload_n 0, 1, []), (30, .getfield 45, 3, [1105]), (33, .aload_n 0, 1, []), (34, .getfield 31, 3, [1103]), (37, .getfield 75, 3, [300]), (40, .aload 4, 2, []), (42, .iload_n 2, 1, []), (43, .invokevirtual 263, 3, [100]), (46, .iload_n 3, 1, []), (47, .tableswitch 49 0 2 #[25, 33, 41], 25, [37, 25, 29, 33]), (72, .aload_n 0, 1, []), (73, .getfield 45, 3, [1105]), (76, .getfield 267, 3, [800]), (79, .ireturn, 1, []), (80, .aload_n 0, 1, []), (81, .getfield 45, 3, [1105]), (84, .getfield 268, 3, [801]), (87, .ireturn, 1, []), (88, .aload_n 0, 1, []), (89, .getfield 45, 3, [1105]), (92, .getfield 271, 3, [802]), (95, .ireturn, 1, []), (96, .bipush (-2), 2, []), (98, .ireturn, 1, [])]
def p_TQ_worst : zz_P := (160, ⟨"TurnQueues", "worst", "(III)I"⟩, prog_1_method_39_code, 5, (some .int), q_TQ_worst)
set_option maxRecDepth 100000 in
theorem k_TQ_worst : zz_okP p_TQ_worst := ⟨by decide +kernel, zz_mem_r [548, 948, 550, 548, 427, 1205, 550, 512, 550, 514, 550, 516] rfl (by decide +kernel)⟩
set_option maxRecDepth 100000 in
theorem o_TQ_worst : zz_okC p_TQ_worst false 11 4 := zz_okV (zz_mem_r (ws := [Cond.code p_TQ_worst.y p_TQ_worst.bytes p_TQ_worst.maxL p_TQ_worst.ret, Cond.initialized p_TQ_worst.y.cls, Cond.instanceMethod p_TQ_worst.y, Cond.selects p_TQ_worst.y.cls p_TQ_worst.y p_TQ_worst.y]) [1204, 96, 1202, 1203] rfl (by decide +kernel)) rfl rfl (by decide +kernel) (by decide +kernel) rfl (by decide +kernel) rfl
def q_TQ_worstAt : List zz_C := [(0, .aload_n 0, 1, []), (1, .getfield 31, 3, [1103]), (4, .iload_n 1, 1, []), (5, .invokevirtual 144, 3, [34]), (8, .astore 4, 2, []), (10, .aload 4, 2, []), (12, .ifnull 18, 3, [15]), (15, .iload_n 2, 1, []), (16, .iconst 1, 1, []), (17, .if_icmp .lt 13, 3, [15]), (20, .iload_n 2, 1, []), (21, .bipush 6, 2, []), (23, .if_icmp .gt 7, 3, [15]), (26, .iload_n 3, 1, []), (27, .ifCond .ge 6, 3, [17]), (30, .bipush (-2), 2, []), (32, .ireturn, 1, []), (33, .aload_n 0, 1, []), (34, .getfield 45, 3, [1105]), (37, .aload_n 0, 1, []), (38, .getfield 31, 3, [1103]), (41, .getfield 75, 3, [300]), (44, .aload 4, 2, []), (46, .iload_n 2, 1, []), (47, .invokevirtual 263, 3, [100]), (50, .iload_n 3, 1, []), (51, .iload_n 2, 1, []), (52, .if_icmp .ge 14, 3, [33]), (55, .aload_n 0, 1, []), (56, .getfield 45, 3, [1105]), (59, .iload_n 3, 1, []), (60, .invokevirtual 274, 3, [104]), (63, .goto 4, 3, [34]), (66, .iconst (-1), 1, []), (67, .ireturn, 1, [])]
def p_TQ_worstAt : zz_P := (161, ⟨"TurnQueues", "worstAt", "(III)I"⟩, prog_1_method_40_code, 5, (some .int), q_TQ_worstAt)
set_option maxRecDepth 100000 in
theorem k_TQ_worstAt : zz_okP p_TQ_worstAt := ⟨by decide +kernel, zz_mem_r [548, 948, 550, 548, 427, 1205, 550, 1229] rfl (by decide +kernel)⟩
set_option maxRecDepth 100000 in
theorem o_TQ_worstAt : zz_okC p_TQ_worstAt false 11 4 := zz_okV (zz_mem_r (ws := [Cond.code p_TQ_worstAt.y p_TQ_worstAt.bytes p_TQ_worstAt.maxL p_TQ_worstAt.ret, Cond.initialized p_TQ_worstAt.y.cls, Cond.instanceMethod p_TQ_worstAt.y, Cond.selects p_TQ_worstAt.y.cls p_TQ_worstAt.y p_TQ_worstAt.y]) [1228, 96, 1226, 1227] rfl (by decide +kernel)) rfl rfl (by decide +kernel) (by decide +kernel) rfl (by decide +kernel) rfl
def q_TQ_spike : List zz_C := [(0, .aload_n 0, 1, []), (1, .getfield 31, 3, [1103]), (4, .iload_n 1, 1, []), (5, .invokevirtual 144, 3, [34]), (8, .astore_n 3, 1, []), (9, .aload_n 3, 1, []), (10, .ifnull 8, 3, [10]), (13, .iload_n 2, 1, []), (14, .iconst 1, 1, []), (15, .if_icmp .ge 6, 3, [12]), (18, .bipush (-2), 2, []), (20, .ireturn, 1, []), (21, .aload_n 0, 1, []), (22, .getfield 45, 3, [1105]), (25, .aload_n 0, 1, []), (26, .getfield 31, 3, [1103]), (29, .getfield 75, 3, [300]), (32, .aload_n 3, 1, []), (33, .bipush 6, 2, []), (35, .invokevirtual 263, 3, [100]), (38, .aload_n 0, 1, []), (39, .getfield 45, 3, [1105]), (42, .iload_n 2, 1, []), (43, .invokevirtual 277, 3, [105]), (46, .ireturn, 1, [])]
def p_TQ_spike : zz_P := (162, ⟨"TurnQueues", "spike", "(II)I"⟩, prog_1_method_41_code, 4, (some .int), q_TQ_spike)
set_option maxRecDepth 100000 in
theorem k_TQ_spike : zz_okP p_TQ_spike := ⟨by decide +kernel, zz_mem_r [548, 948, 550, 548, 427, 1205, 550, 1237] rfl (by decide +kernel)⟩
set_option maxRecDepth 100000 in
theorem o_TQ_spike : zz_okC p_TQ_spike false 11 3 := zz_okV (zz_mem_r (ws := [Cond.code p_TQ_spike.y p_TQ_spike.bytes p_TQ_spike.maxL p_TQ_spike.ret, Cond.initialized p_TQ_spike.y.cls, Cond.instanceMethod p_TQ_spike.y, Cond.selects p_TQ_spike.y.cls p_TQ_spike.y p_TQ_spike.y]) [1236, 96, 1234, 1235] rfl (by decide +kernel)) rfl rfl (by decide +kernel) (by decide +kernel) rfl (by decide +kernel) rfl
def q_TQ_drain : List zz_C := [(0, .aload_n 0, 1, []), (1, .getfield 31, 3, [1103]), (4, .iload_n 1, 1, []), (5, .invokevirtual 144, 3, [34]), (8, .astore_n 2, 1, []), (9, .aload_n 2, 1, []), (10, .ifnonnull 8, 3, [9]), (13, .bipush (-2), 2, []), (15, .goto 18, 3, [16]), (18, .aload_n 0, 1, []), (19, .getfield 38, 3, [1104]), (22, .aload_n 0, 1, []), (23, .getfield 31, 3, [1103]), (26, .getfield 75, 3, [300]), (29, .aload_n 2, 1, []), (30, .invokevirtual 280, 3, [117]), (33, .ireturn, 1, [])]
def p_TQ_drain : zz_P := (163, ⟨"TurnQueues", "drain", "(I)I"⟩, prog_1_method_42_code, 3, (some .int), q_TQ_drain)
set_option maxRecDepth 100000 in
theorem k_TQ_drain : zz_okP p_TQ_drain := ⟨by decide +kernel, zz_mem_r [548, 948, 549, 548, 427, 1245] rfl (by decide +kernel)⟩
set_option maxRecDepth 100000 in
theorem o_TQ_drain : zz_okC p_TQ_drain false 11 2 := zz_okV (zz_mem_r (ws := [Cond.code p_TQ_drain.y p_TQ_drain.bytes p_TQ_drain.maxL p_TQ_drain.ret, Cond.initialized p_TQ_drain.y.cls, Cond.instanceMethod p_TQ_drain.y, Cond.selects p_TQ_drain.y.cls p_TQ_drain.y p_TQ_drain.y]) [1244, 96, 1242, 1243] rfl (by decide +kernel)) rfl rfl (by decide +kernel) (by decide +kernel) rfl (by decide +kernel) rfl
def q_TQ_tell : List zz_C := [(0, .aload_n 0, 1, []), (1, .getfield 31, 3, [1103]), (4, .getfield 75, 3, [300]), (7, .iload_n 1, 1, []), (8, .invokevirtual 103, 3, [24]), (11, .ifCond .ne 6, 3, [8]), (14, .bipush (-2), 2, []), (16, .ireturn, 1, []), (17, .aload_n 0, 1, []), (18, .getfield 31, 3, [1103]), (21, .iload_n 1, 1, []), (22, .aload_n 0, 1, []), (23, .getfield 18, 3, [1101]), (26, .invokevirtual 283, 3, [54]), (29, .aload_n 0, 1, []), (30, .getfield 18, 3, [1101]), (33, .getfield 56, 3, [0]), (36, .ireturn, 1, [])]
def p_TQ_tell : zz_P := (164, ⟨"TurnQueues", "tell", "(I)I"⟩, prog_1_method_43_code, 2, (some .int), q_TQ_tell)
set_option maxRecDepth 100000 in
theorem k_TQ_tell : zz_okP p_TQ_tell := ⟨by decide +kernel, zz_mem_r [548, 427, 883, 548, 546, 1253, 546, 132] rfl (by decide +kernel)⟩
set_option maxRecDepth 100000 in
theorem o_TQ_tell : zz_okC p_TQ_tell false 11 2 := zz_okV (zz_mem_r (ws := [Cond.code p_TQ_tell.y p_TQ_tell.bytes p_TQ_tell.maxL p_TQ_tell.ret, Cond.initialized p_TQ_tell.y.cls, Cond.instanceMethod p_TQ_tell.y, Cond.selects p_TQ_tell.y.cls p_TQ_tell.y p_TQ_tell.y]) [1252, 96, 1250, 1251] rfl (by decide +kernel)) rfl rfl (by decide +kernel) (by decide +kernel) rfl (by decide +kernel) rfl
def q_TQ_octet : List zz_C := [(0, .aload_n 0, 1, []), (1, .getfield 18, 3, [1101]), (4, .iload_n 1, 1, []), (5, .invokevirtual 287, 3, [5]), (8, .ireturn, 1, [])]
def p_TQ_octet : zz_P := (165, ⟨"TurnQueues", "octet", "(I)I"⟩, prog_1_method_44_code, 2, (some .int), q_TQ_octet)
set_option maxRecDepth 100000 in
theorem k_TQ_octet : zz_okP p_TQ_octet := ⟨by decide +kernel, zz_mem_r [546, 1258] rfl (by decide +kernel)⟩
set_option maxRecDepth 100000 in
theorem o_TQ_octet : zz_okC p_TQ_octet false 11 2 := zz_okV (zz_mem_r (ws := [Cond.code p_TQ_octet.y p_TQ_octet.bytes p_TQ_octet.maxL p_TQ_octet.ret, Cond.initialized p_TQ_octet.y.cls, Cond.instanceMethod p_TQ_octet.y, Cond.selects p_TQ_octet.y.cls p_TQ_octet.y p_TQ_octet.y]) [1257, 96, 1255, 1256] rfl (by decide +kernel)) rfl rfl (by decide +kernel) (by decide +kernel) rfl (by decide +kernel) rfl
def q_TQ_walk : List zz_C := [(0, .aload_n 0, 1, []), (1, .getfield 31, 3, [1103]), (4, .iload_n 1, 1, []), (5, .invokevirtual 144, 3, [34]), (8, .astore_n 2, 1, []), (9, .aload_n 2, 1, []), (10, .ifnonnull 6, 3, [9]), (13, .bipush (-2), 2, []), (15, .ireturn, 1, []), (16, .aload_n 0, 1, []), (17, .getfield 38, 3, [1104]), (20, .aload_n 0, 1, []), (21, .getfield 31, 3, [1103]), (24, .getfield 75, 3, [300]), (27, .aload_n 2, 1, []), (28, .aload_n 0, 1, []), (29, .getfield 14, 3, [1100]), (32, .invokevirtual 290, 3, [118]), (35, .istore_n 3, 1, []), (36, .aload_n 0, 1, []), (37, .getfield 14, 3, [1100]), (40, .iconst 0, 1, []), (41, .putfield 56, 3, [0]), (44, .iload_n 3, 1, []), (45, .ireturn, 1, [])]
def p_TQ_walk : zz_P := (166, ⟨"TurnQueues", "walk", "(I)I"⟩, prog_1_method_45_code, 4, (some .int), q_TQ_walk)
set_option maxRecDepth 100000 in
theorem k_TQ_walk : zz_okP p_TQ_walk := ⟨by decide +kernel, zz_mem_r [548, 948, 549, 548, 427, 545, 1263, 545, 132] rfl (by decide +kernel)⟩
set_option maxRecDepth 100000 in
theorem o_TQ_walk : zz_okC p_TQ_walk false 11 2 := zz_okV (zz_mem_r (ws := [Cond.code p_TQ_walk.y p_TQ_walk.bytes p_TQ_walk.maxL p_TQ_walk.ret, Cond.initialized p_TQ_walk.y.cls, Cond.instanceMethod p_TQ_walk.y, Cond.selects p_TQ_walk.y.cls p_TQ_walk.y p_TQ_walk.y]) [1262, 96, 1260, 1261] rfl (by decide +kernel)) rfl rfl (by decide +kernel) (by decide +kernel) rfl (by decide +kernel) rfl
def q_TQ_grafting : List zz_C := [(0, .aload_n 0, 1, []), (1, .getfield 31, 3, [1103]), (4, .iload_n 1, 1, []), (5, .iload_n 2, 1, []), (6, .iload_n 3, 1, []), (7, .invokevirtual 294, 3, [37]), (10, .ifCond .eq 14, 3, [12]), (13, .iload 4, 2, []), (15, .ifCond .lt 9, 3, [12]), (18, .iload 4, 2, []), (20, .iconst 3, 1, []), (21, .if_icmp .le 6, 3, [14]), (24, .bipush (-2), 2, []), (26, .ireturn, 1, []), (27, .aload_n 0, 1, []), (28, .getfield 38, 3, [1104]), (31, .aload_n 0, 1, []), (32, .getfield 31, 3, [1103]), (35, .iload_n 1, 1, []), (36, .iload_n 2, 1, []), (37, .iload_n 3, 1, []), (38, .invokevirtual 298, 3, [120]), (41, .istore 5, 2, []), (43, .iload 5, 2, []), (45, .iconst (-1), 1, []), (46, .if_icmp .eq 8, 3, [28]), (49, .iload 4, 2, []), (51, .ifCond .ne 6, 3, [30]), (54, .iload 5, 2, []), (56, .ireturn, 1, []), (57, .iload 4, 2, []), (59, .iconst 1, 1, []), (60, .if_icmp .ne 11, 3, [37]), (63, .aload_n 0, 1, []), (64, .getfield 38, 3, [1104]), (67, .getfield 302, 3, [1001]), (70, .ireturn, 1, []), (71, .iload 4, 2, []), (73, .iconst 2, 1, []), (74, .if_icmp .ne 13, 3, [44]), (77, .aload_n 0, 1, []), (78, .getfield 38, 3, [1104]), (81, .getfield 305, 3, [1002]), (84, .goto 13, 3, [48]), (87, .aload_n 0, 1, []), (88, .getfield 38, 3, [1104]), (91, .getfield 308, 3, [1003]), (94, .getfield 124, 3, [500]), (97, .ireturn, 1, [])]
def p_TQ_grafting : zz_P := (167, ⟨"TurnQueues", "grafting", "(IIII)I"⟩, prog_1_method_46_code, 6, (some .int), q_TQ_grafting)
set_option maxRecDepth 100000 in
theorem k_TQ_grafting : zz_okP p_TQ_grafting := ⟨by decide +kernel, zz_mem_r [548, 1276, 549, 548, 1280, 549, 478, 549, 480, 549, 482, 418] rfl (by decide +kernel)⟩
set_option maxRecDepth 100000 in
theorem o_TQ_grafting : zz_okC p_TQ_grafting false 11 5 := zz_okV (zz_mem_r (ws := [Cond.code p_TQ_grafting.y p_TQ_grafting.bytes p_TQ_grafting.maxL p_TQ_grafting.ret, Cond.initialized p_TQ_grafting.y.cls, Cond.instanceMethod p_TQ_grafting.y, Cond.selects p_TQ_grafting.y.cls p_TQ_grafting.y p_TQ_grafting.y]) [1275, 96, 1273, 1274] rfl (by decide +kernel)) rfl rfl (by decide +kernel) (by decide +kernel) rfl (by decide +kernel) rfl
def q_TQ_grafted : List zz_C := [(0, .aload_n 0, 1, []), (1, .getfield 31, 3, [1103]), (4, .iload_n 1, 1, []), (5, .iload_n 2, 1, []), (6, .iload_n 3, 1, []), (7, .invokevirtual 294, 3, [37]), (10, .ifCond .eq 8, 3, [9]), (13, .iload 4, 2, []), (15, .ifCond .ge 6, 3, [11]), (18, .bipush (-2), 2, []), (20, .ireturn, 1, []), (21, .aload_n 0, 1, []), (22, .getfield 38, 3, [1104]), (25, .aload_n 0, 1, []), (26, .getfield 31, 3, [1103]), (29, .iload_n 1, 1, []), (30, .iload_n 2, 1, []), (31, .iload_n 3, 1, []), (32, .invokevirtual 298, 3, [120]), (35, .istore 5, 2, []), (37, .iload 5, 2, []), (39, .iconst (-1), 1, []), (40, .if_icmp .ne 7, 3, [25]), (43, .iconst (-1), 1, []), (44, .goto 15, 3, [30]), (47, .aload_n 0, 1, []), (48, .getfield 38, 3, [1104]), (51, .getfield 308, 3, [1003]), (54, .iload 4, 2, []), (56, .invokevirtual 127, 3, [74]), (59, .ireturn, 1, [])]
def p_TQ_grafted : zz_P := (168, ⟨"TurnQueues", "grafted", "(IIII)I"⟩, prog_1_method_47_code, 6, (some .int), q_TQ_grafted)
set_option maxRecDepth 100000 in
theorem k_TQ_grafted : zz_okP p_TQ_grafted := ⟨by decide +kernel, zz_mem_r [548, 1276, 549, 548, 1280, 549, 482, 894] rfl (by decide +kernel)⟩
set_option maxRecDepth 100000 in
theorem o_TQ_grafted : zz_okC p_TQ_grafted false 11 5 := zz_okV (zz_mem_r (ws := [Cond.code p_TQ_grafted.y p_TQ_grafted.bytes p_TQ_grafted.maxL p_TQ_grafted.ret, Cond.initialized p_TQ_grafted.y.cls, Cond.instanceMethod p_TQ_grafted.y, Cond.selects p_TQ_grafted.y.cls p_TQ_grafted.y p_TQ_grafted.y]) [1297, 96, 1295, 1296] rfl (by decide +kernel)) rfl rfl (by decide +kernel) (by decide +kernel) rfl (by decide +kernel) rfl
def q_TQ_graft : List zz_C := [(0, .aload_n 0, 1, []), (1, .getfield 31, 3, [1103]), (4, .iload_n 1, 1, []), (5, .iload_n 2, 1, []), (6, .iload_n 3, 1, []), (7, .invokevirtual 294, 3, [37]), (10, .ifCond .ne 6, 3, [9]), (13, .bipush (-2), 2, []), (15, .ireturn, 1, []), (16, .aload_n 0, 1, []), (17, .getfield 38, 3, [1104]), (20, .aload_n 0, 1, []), (21, .getfield 31, 3, [1103]), (24, .iload_n 1, 1, []), (25, .iload_n 2, 1, []), (26, .iload_n 3, 1, []), (27, .invokevirtual 298, 3, [120]), (30, .istore 4, 2, []), (32, .iload 4, 2, []), (34, .iconst (-1), 1, []), (35, .if_icmp .ne 6, 3, [23]), (38, .bipush (-3), 2, []), (40, .ireturn, 1, []), (41, .aload_n 0, 1, []), (42, .getfield 38, 3, [1104]), (45, .getfield 305, 3, [1002]), (48, .iconst (-1), 1, []), (49, .if_icmp .ne 21, 3, [36]), (52, .aload_n 0, 1, []), (53, .getfield 31, 3, [1103]), (56, .getfield 75, 3, [300]), (59, .invokevirtual 94, 3, [21]), (62, .iload 4, 2, []), (64, .iadd, 1, []), (65, .bipush 61, 2, []), (67, .if_icmp .le 6, 3, [38]), (70, .bipush (-5), 2, []), (72, .ireturn, 1, []), (73, .aload_n 0, 1, []), (74, .getfield 31, 3, [1103]), (77, .iload 4, 2, []), (79, .iload_n 3, 1, []), (80, .invokevirtual 312, 3, [40]), (83, .ireturn, 1, [])]
def p_TQ_graft : zz_P := (169, ⟨"TurnQueues", "graft", "(III)I"⟩, prog_1_method_48_code, 5, (some .int), q_TQ_graft)
set_option maxRecDepth 100000 in
theorem k_TQ_graft : zz_okP p_TQ_graft := ⟨by decide +kernel, zz_mem_r [548, 1276, 549, 548, 1280, 549, 480, 548, 427, 874, 548, 1302] rfl (by decide +kernel)⟩
set_option maxRecDepth 100000 in
theorem o_TQ_graft : zz_okC p_TQ_graft false 11 4 := zz_okV (zz_mem_r (ws := [Cond.code p_TQ_graft.y p_TQ_graft.bytes p_TQ_graft.maxL p_TQ_graft.ret, Cond.initialized p_TQ_graft.y.cls, Cond.instanceMethod p_TQ_graft.y, Cond.selects p_TQ_graft.y.cls p_TQ_graft.y p_TQ_graft.y]) [1301, 96, 1299, 1300] rfl (by decide +kernel)) rfl rfl (by decide +kernel) (by decide +kernel) rfl (by decide +kernel) rfl
def q_TQ_image : List zz_C := [(0, .iload_n 1, 1, []), (1, .ifCond .lt 21, 3, [10]), (4, .iload_n 1, 1, []), (5, .iconst 3, 1, []), (6, .if_icmp .ge 16, 3, [10]), (9, .aload_n 0, 1, []), (10, .getfield 31, 3, [1103]), (13, .getfield 75, 3, [300]), (16, .getfield 214, 3, [200]), (19, .ifCond .ne 6, 3, [12]), (22, .bipush (-2), 2, []), (24, .ireturn, 1, []), (25, .aload_n 0, 1, []), (26, .getfield 51, 3, [1106]), (29, .iload_n 1, 1, []), (30, .aaload, 1, []), (31, .aload_n 0, 1, []), (32, .getfield 31, 3, [1103]), (35, .getfield 75, 3, [300]), (38, .invokevirtual 315, 3, [19]), (41, .iconst 0, 1, []), (42, .ireturn, 1, [])]
def p_TQ_image : zz_P := (170, ⟨"TurnQueues", "image", "(I)I"⟩, prog_1_method_49_code, 2, (some .int), q_TQ_image)
set_option maxRecDepth 100000 in
theorem k_TQ_image : zz_okP p_TQ_image := ⟨by decide +kernel, zz_mem_r [548, 427, 157, 551, 548, 427, 1311] rfl (by decide +kernel)⟩
set_option maxRecDepth 100000 in
theorem o_TQ_image : zz_okC p_TQ_image false 11 2 := zz_okV (zz_mem_r (ws := [Cond.code p_TQ_image.y p_TQ_image.bytes p_TQ_image.maxL p_TQ_image.ret, Cond.initialized p_TQ_image.y.cls, Cond.instanceMethod p_TQ_image.y, Cond.selects p_TQ_image.y.cls p_TQ_image.y p_TQ_image.y]) [1310, 96, 1308, 1309] rfl (by decide +kernel)) rfl rfl (by decide +kernel) (by decide +kernel) rfl (by decide +kernel) rfl
def q_TQ_back : List zz_C := [(0, .iload_n 1, 1, []), (1, .ifCond .lt 8, 3, [5]), (4, .iload_n 1, 1, []), (5, .iconst 3, 1, []), (6, .if_icmp .lt 6, 3, [7]), (9, .bipush (-2), 2, []), (11, .ireturn, 1, []), (12, .aload_n 0, 1, []), (13, .getfield 51, 3, [1106]), (16, .iload_n 1, 1, []), (17, .aaload, 1, []), (18, .getfield 214, 3, [200]), (21, .ifCond .ne 6, 3, [15]), (24, .bipush (-6), 2, []), (26, .ireturn, 1, []), (27, .aload_n 0, 1, []), (28, .getfield 31, 3, [1103]), (31, .aload_n 0, 1, []), (32, .getfield 51, 3, [1106]), (35, .iload_n 1, 1, []), (36, .aaload, 1, []), (37, .invokevirtual 71, 3, [32]), (40, .iconst 0, 1, []), (41, .ireturn, 1, [])]
def p_TQ_back : zz_P := (171, ⟨"TurnQueues", "back", "(I)I"⟩, prog_1_method_50_code, 2, (some .int), q_TQ_back)
set_option maxRecDepth 100000 in
theorem k_TQ_back : zz_okP p_TQ_back := ⟨by decide +kernel, zz_mem_r [551, 157, 548, 551, 721] rfl (by decide +kernel)⟩
set_option maxRecDepth 100000 in
theorem o_TQ_back : zz_okC p_TQ_back false 11 2 := zz_okV (zz_mem_r (ws := [Cond.code p_TQ_back.y p_TQ_back.bytes p_TQ_back.maxL p_TQ_back.ret, Cond.initialized p_TQ_back.y.cls, Cond.instanceMethod p_TQ_back.y, Cond.selects p_TQ_back.y.cls p_TQ_back.y p_TQ_back.y]) [1315, 96, 1313, 1314] rfl (by decide +kernel)) rfl rfl (by decide +kernel) (by decide +kernel) rfl (by decide +kernel) rfl
def q_TQ_put : List zz_C := [(0, .aload_n 0, 1, []), (1, .getfield 31, 3, [1103]), (4, .iconst 0, 1, []), (5, .iload_n 1, 1, []), (6, .iload_n 2, 1, []), (7, .invokevirtual 316, 3, [38]), (10, .ireturn, 1, [])]
def p_TQ_put : zz_P := (172, ⟨"TurnQueues", "put", "(II)I"⟩, prog_1_method_51_code, 3, (some .int), q_TQ_put)
set_option maxRecDepth 100000 in
theorem k_TQ_put : zz_okP p_TQ_put := ⟨by decide +kernel, zz_mem_r [548, 1320] rfl (by decide +kernel)⟩
set_option maxRecDepth 100000 in
theorem o_TQ_put : zz_okC p_TQ_put false 11 3 := zz_okV (zz_mem_r (ws := [Cond.code p_TQ_put.y p_TQ_put.bytes p_TQ_put.maxL p_TQ_put.ret, Cond.initialized p_TQ_put.y.cls, Cond.instanceMethod p_TQ_put.y, Cond.selects p_TQ_put.y.cls p_TQ_put.y p_TQ_put.y]) [1319, 96, 1317, 1318] rfl (by decide +kernel)) rfl rfl (by decide +kernel) (by decide +kernel) rfl (by decide +kernel) rfl
def q_TQ_take : List zz_C := [(0, .aload_n 0, 1, []), (1, .getfield 31, 3, [1103]), (4, .iconst 1, 1, []), (5, .iload_n 1, 1, []), (6, .invokevirtual 320, 3, [39]), (9, .ireturn, 1, [])]
def p_TQ_take : zz_P := (173, ⟨"TurnQueues", "take", "(I)I"⟩, prog_1_method_52_code, 2, (some .int), q_TQ_take)
set_option maxRecDepth 100000 in
theorem k_TQ_take : zz_okP p_TQ_take := ⟨by decide +kernel, zz_mem_r [548, 1328] rfl (by decide +kernel)⟩
set_option maxRecDepth 100000 in
theorem o_TQ_take : zz_okC p_TQ_take false 11 2 := zz_okV (zz_mem_r (ws := [Cond.code p_TQ_take.y p_TQ_take.bytes p_TQ_take.maxL p_TQ_take.ret, Cond.initialized p_TQ_take.y.cls, Cond.instanceMethod p_TQ_take.y, Cond.selects p_TQ_take.y.cls p_TQ_take.y p_TQ_take.y]) [1327, 96, 1325, 1326] rfl (by decide +kernel)) rfl rfl (by decide +kernel) (by decide +kernel) rfl (by decide +kernel) rfl
def q_TQ_fore : List zz_C := [(0, .aload_n 0, 1, []), (1, .getfield 31, 3, [1103]), (4, .getfield 75, 3, [300]), (7, .getfield 88, 3, [201]), (10, .iconst 2, 1, []), (11, .if_icmp .ne 16, 3, [13]), (14, .aload_n 0, 1, []), (15, .getfield 31, 3, [1103]), (18, .iconst 2, 1, []), (19, .iload_n 1, 1, []), (20, .iload_n 2, 1, []), (21, .invokevirtual 316, 3, [38]), (24, .goto 5, 3, [14]), (27, .bipush (-2), 2, []), (29, .ireturn, 1, [])]
def p_TQ_fore : zz_P := (174, ⟨"TurnQueues", "fore", "(II)I"⟩, prog_1_method_53_code, 3, (some .int), q_TQ_fore)
set_option maxRecDepth 100000 in
theorem k_TQ_fore : zz_okP p_TQ_fore := ⟨by decide +kernel, zz_mem_r [548, 427, 163, 548, 1320] rfl (by decide +kernel)⟩
set_option maxRecDepth 100000 in
theorem o_TQ_fore : zz_okC p_TQ_fore false 11 3 := zz_okV (zz_mem_r (ws := [Cond.code p_TQ_fore.y p_TQ_fore.bytes p_TQ_fore.maxL p_TQ_fore.ret, Cond.initialized p_TQ_fore.y.cls, Cond.instanceMethod p_TQ_fore.y, Cond.selects p_TQ_fore.y.cls p_TQ_fore.y p_TQ_fore.y]) [1336, 96, 1334, 1335] rfl (by decide +kernel)) rfl rfl (by decide +kernel) (by decide +kernel) rfl (by decide +kernel) rfl
def q_TQ_last : List zz_C := [(0, .aload_n 0, 1, []), (1, .getfield 31, 3, [1103]), (4, .getfield 75, 3, [300]), (7, .getfield 88, 3, [201]), (10, .iconst 2, 1, []), (11, .if_icmp .ne 15, 3, [12]), (14, .aload_n 0, 1, []), (15, .getfield 31, 3, [1103]), (18, .iconst 3, 1, []), (19, .iload_n 1, 1, []), (20, .invokevirtual 320, 3, [39]), (23, .goto 5, 3, [13]), (26, .bipush (-2), 2, []), (28, .ireturn, 1, [])]
def p_TQ_last : zz_P := (175, ⟨"TurnQueues", "last", "(I)I"⟩, prog_1_method_54_code, 2, (some .int), q_TQ_last)
set_option maxRecDepth 100000 in
theorem k_TQ_last : zz_okP p_TQ_last := ⟨by decide +kernel, zz_mem_r [548, 427, 163, 548, 1328] rfl (by decide +kernel)⟩
set_option maxRecDepth 100000 in
theorem o_TQ_last : zz_okC p_TQ_last false 11 2 := zz_okV (zz_mem_r (ws := [Cond.code p_TQ_last.y p_TQ_last.bytes p_TQ_last.maxL p_TQ_last.ret, Cond.initialized p_TQ_last.y.cls, Cond.instanceMethod p_TQ_last.y, Cond.selects p_TQ_last.y.cls p_TQ_last.y p_TQ_last.y]) [1340, 96, 1338, 1339] rfl (by decide +kernel)) rfl rfl (by decide +kernel) (by decide +kernel) rfl (by decide +kernel) rfl
def q_TQ_undo : List zz_C := [(0, .aload_n 0, 1, []), (1, .getfield 31, 3, [1103]), (4, .getfield 75, 3, [300]), (7, .getfield 214, 3, [200]), (10, .ifCond .ne 6, 3, [7]), (13, .bipush (-2), 2, []), (15, .ireturn, 1, []), (16, .aload_n 0, 1, []), (17, .getfield 31, 3, [1103]), (20, .getfield 75, 3, [300]), (23, .invokevirtual 100, 3, [23]), (26, .ifCond .ne 6, 3, [14]), (29, .bipush (-5), 2, []), (31, .ireturn, 1, []), (32, .aload_n 0, 1, []), (33, .getfield 31, 3, [1103]), (36, .aload_n 0, 1, []), (37, .getfield 31, 3, [1103]), (40, .getfield 75, 3, [300]), (43, .getfield 97, 3, [204]), (46, .iconst 1, 1, []), (47, .isub, 1, []), (48, .invokevirtual 323, 3, [41]), (51, .aload_n 0, 1, []), (52, .getfield 31, 3, [1103]), (55, .getfield 75, 3, [300]), (58, .invokevirtual 100, 3, [23]), (61, .ireturn, 1, [])]
def p_TQ_undo : zz_P := (176, ⟨"TurnQueues", "undo", "()I"⟩, prog_1_method_55_code, 1, (some .int), q_TQ_undo)
set_option maxRecDepth 100000 in
theorem k_TQ_undo : zz_okP p_TQ_undo := ⟨by decide +kernel, zz_mem_r [548, 427, 157, 548, 427, 875, 548, 548, 427, 175, 1345, 548, 427, 875] rfl (by decide +kernel)⟩
set_option maxRecDepth 100000 in
theorem o_TQ_undo : zz_okC p_TQ_undo false 11 1 := zz_okV (zz_mem_r (ws := [Cond.code p_TQ_undo.y p_TQ_undo.bytes p_TQ_undo.maxL p_TQ_undo.ret, Cond.initialized p_TQ_undo.y.cls, Cond.instanceMethod p_TQ_undo.y, Cond.selects p_TQ_undo.y.cls p_TQ_undo.y p_TQ_undo.y]) [1344, 96, 1342, 1343] rfl (by decide +kernel)) rfl rfl (by decide +kernel) (by decide +kernel) rfl (by decide +kernel) rfl
def q_TQ_anew : List zz_C := [(0, .aload_n 0, 1, []), (1, .getfield 31, 3, [1103]), (4, .getfield 75, 3, [300]), (7, .getfield 214, 3, [200]), (10, .ifCond .ne 6, 3, [7]), (13, .bipush (-2), 2, []), (15, .ireturn, 1, []), (16, .aload_n 0, 1, []), (17, .getfield 31, 3, [1103]), (20, .getfield 75, 3, [300]), (23, .invokevirtual 100, 3, [23]), (26, .istore_n 1, 1, []), (27, .aload_n 0, 1, []), (28, .getfield 31, 3, [1103]), (31, .aload_n 0, 1, []), (32, .getfield 31, 3, [1103]), (35, .getfield 75, 3, [300]), (38, .getfield 326, 3, [203]), (41, .invokevirtual 323, 3, [41]), (44, .iload_n 1, 1, []), (45, .ireturn, 1, [])]
def p_TQ_anew : zz_P := (177, ⟨"TurnQueues", "anew", "()I"⟩, prog_1_method_56_code, 2, (some .int), q_TQ_anew)
set_option maxRecDepth 100000 in
theorem k_TQ_anew : zz_okP p_TQ_anew := ⟨by decide +kernel, zz_mem_r [548, 427, 157, 548, 427, 875, 548, 548, 427, 172, 1345] rfl (by decide +kernel)⟩
set_option maxRecDepth 100000 in
theorem o_TQ_anew : zz_okC p_TQ_anew false 11 1 := zz_okV (zz_mem_r (ws := [Cond.code p_TQ_anew.y p_TQ_anew.bytes p_TQ_anew.maxL p_TQ_anew.ret, Cond.initialized p_TQ_anew.y.cls, Cond.instanceMethod p_TQ_anew.y, Cond.selects p_TQ_anew.y.cls p_TQ_anew.y p_TQ_anew.y]) [1352, 96, 1350, 1351] rfl (by decide +kernel)) rfl rfl (by decide +kernel) (by decide +kernel) rfl (by decide +kernel) rfl
def q_TQ_isPutting : List zz_C := [(0, .iload_n 0, 1, []), (1, .ifCond .eq 8, 3, [5]), (4, .iload_n 0, 1, []), (5, .iconst 2, 1, []), (6, .if_icmp .ne 7, 3, [7]), (9, .iconst 1, 1, []), (10, .goto 4, 3, [8]), (13, .iconst 0, 1, []), (14, .ireturn, 1, [])]
def p_TQ_isPutting : zz_P := (178, ⟨"TurnQueues", "isPutting", "(I)Z"⟩, prog_1_method_57_code, 1, (some .boolean), q_TQ_isPutting)
set_option maxRecDepth 100000 in
theorem k_TQ_isPutting : zz_okP p_TQ_isPutting := ⟨by decide +kernel, zz_mem_r [] rfl (by decide +kernel)⟩
set_option maxRecDepth 100000 in
theorem o_TQ_isPutting : zz_okC p_TQ_isPutting true 0 1 := zz_okS  (zz_mem_r (ws := [Cond.code p_TQ_isPutting.y p_TQ_isPutting.bytes p_TQ_isPutting.maxL p_TQ_isPutting.ret, Cond.initialized p_TQ_isPutting.y.cls, Cond.static p_TQ_isPutting.y]) [712, 96, 711] rfl (by decide +kernel)) rfl rfl (by decide +kernel) (by decide +kernel) rfl (by decide +kernel)
end
section
/-! the code of the methods, printed by program -/
def q_Mo_in : List zz_C := [(0, .lload_n 0, 1, []), (1, .lload_n 2, 1, []), (2, .lcmp, 1, []), (3, .ifCond .lt 14, 3, [10]), (6, .lload_n 0, 1, []), (7, .lload 4, 2, []), (9, .lcmp, 1, []), (10, .ifCond .gt 7, 3, [10]), (13, .iconst 1, 1, []), (14, .goto 4, 3, [11]), (17, .iconst 0, 1, []), (18, .ireturn, 1, [])]
def p_Mo_in : zz_P := (180, ⟨"TurnQueuesModel", "in", "(JJJ)Z"⟩, prog_14_method_3_code, 6, (some .boolean), q_Mo_in)
set_option maxRecDepth 100000 in
theorem k_Mo_in : zz_okP p_Mo_in := ⟨by decide +kernel, zz_mem_r [] rfl (by decide +kernel)⟩
set_option maxRecDepth 100000 in
theorem o_Mo_in : zz_okC p_Mo_in true 0 3 := zz_okS  (zz_mem_r (ws := [Cond.code p_Mo_in.y p_Mo_in.bytes p_Mo_in.maxL p_Mo_in.ret, Cond.initialized p_Mo_in.y.cls, Cond.static p_Mo_in.y]) [1543, 109, 1542] rfl (by decide +kernel)) rfl rfl (by decide +kernel) (by decide +kernel) rfl (by decide +kernel)
def q_Mo_ahead : List zz_C := [(0, .aload_n 0, 1, []), (1, .getfield 9, 3, [1201]), (4, .aload_n 0, 1, []), (5, .getfield 94, 3, [1203]), (8, .iload_n 1, 1, []), (9, .iastore, 1, []), (10, .aload_n 0, 1, []), (11, .getfield 13, 3, [1202]), (14, .aload_n 0, 1, []), (15, .getfield 94, 3, [1203]), (18, .iload_n 2, 1, []), (19, .iastore, 1, []), (20, .aload_n 0, 1, []), (21, .dup, 1, []), (22, .getfield 94, 3, [1203]), (25, .iconst 1, 1, []), (26, .iadd, 1, []), (27, .putfield 94, 3, [1203]), (30, .aload_n 0, 1, []), (31, .getfield 94, 3, [1203]), (34, .iconst 1, 1, []), (35, .isub, 1, []), (36, .ireturn, 1, [])]
def p_Mo_ahead : zz_P := (181, ⟨"TurnQueuesModel", "ahead", "(II)I"⟩, prog_14_method_4_code, 3, (some .int), q_Mo_ahead)
set_option maxRecDepth 100000 in
theorem k_Mo_ahead : zz_okP p_Mo_ahead := ⟨by decide +kernel, zz_mem_r [1359, 1361, 1360, 1361, 1361, 1361, 1361] rfl (by decide +kernel)⟩
set_option maxRecDepth 100000 in
theorem o_Mo_ahead : zz_okC p_Mo_ahead false 12 3 := zz_okV (zz_mem_r (ws := [Cond.code p_Mo_ahead.y p_Mo_ahead.bytes p_Mo_ahead.maxL p_Mo_ahead.ret, Cond.initialized p_Mo_ahead.y.cls, Cond.instanceMethod p_Mo_ahead.y, Cond.selects p_Mo_ahead.y.cls p_Mo_ahead.y p_Mo_ahead.y]) [1646, 109, 1645, 53] rfl (by decide +kernel)) rfl rfl (by decide +kernel) (by decide +kernel) rfl (by decide +kernel) rfl
def q_Mo_lengthOf : List zz_C := [(0, .iconst 0, 1, []), (1, .istore_n 2, 1, []), (2, .iload_n 1, 1, []), (3, .istore_n 3, 1, []), (4, .iload_n 3, 1, []), (5, .iconst (-1), 1, []), (6, .if_icmp .eq 16, 3, [14]), (9, .iinc 2 1, 3, []), (12, .aload_n 0, 1, []), (13, .getfield 13, 3, [1202]), (16, .iload_n 3, 1, []), (17, .iaload, 1, []), (18, .istore_n 3, 1, []), (19, .goto (-15), 3, [4]), (22, .iload_n 2, 1, []), (23, .ireturn, 1, [])]
def p_Mo_lengthOf : zz_P := (182, ⟨"TurnQueuesModel", "lengthOf", "(I)I"⟩, prog_14_method_5_code, 4, (some .int), q_Mo_lengthOf)
set_option maxRecDepth 100000 in
theorem k_Mo_lengthOf : zz_okP p_Mo_lengthOf := ⟨by decide +kernel, zz_mem_r [1360] rfl (by decide +kernel)⟩
set_option maxRecDepth 100000 in
theorem o_Mo_lengthOf : zz_okC p_Mo_lengthOf false 12 2 := zz_okV (zz_mem_r (ws := [Cond.code p_Mo_lengthOf.y p_Mo_lengthOf.bytes p_Mo_lengthOf.maxL p_Mo_lengthOf.ret, Cond.initialized p_Mo_lengthOf.y.cls, Cond.instanceMethod p_Mo_lengthOf.y, Cond.selects p_Mo_lengthOf.y.cls p_Mo_lengthOf.y p_Mo_lengthOf.y]) [1670, 109, 1669, 59] rfl (by decide +kernel)) rfl rfl (by decide +kernel) (by decide +kernel) rfl (by decide +kernel) rfl
def q_Mo_of : List zz_C := [(0, .aload_n 0, 1, []), (1, .getfield 16, 3, [1204]), (4, .bipush 12, 2, []), (6, .iload_n 1, 1, []), (7, .imul, 1, []), (8, .iload_n 2, 1, []), (9, .iadd, 1, []), (10, .iaload, 1, []), (11, .ireturn, 1, [])]
def p_Mo_of : zz_P := (183, ⟨"TurnQueuesModel", "of", "(II)I"⟩, prog_14_method_6_code, 3, (some .int), q_Mo_of)
set_option maxRecDepth 100000 in
theorem k_Mo_of : zz_okP p_Mo_of := ⟨by decide +kernel, zz_mem_r [1362] rfl (by decide +kernel)⟩
set_option maxRecDepth 100000 in
theorem o_Mo_of : zz_okC p_Mo_of false 12 3 := zz_okV (zz_mem_r (ws := [Cond.code p_Mo_of.y p_Mo_of.bytes p_Mo_of.maxL p_Mo_of.ret, Cond.initialized p_Mo_of.y.cls, Cond.instanceMethod p_Mo_of.y, Cond.selects p_Mo_of.y.cls p_Mo_of.y p_Mo_of.y]) [1638, 109, 1637, 51] rfl (by decide +kernel)) rfl rfl (by decide +kernel) (by decide +kernel) rfl (by decide +kernel) rfl
def q_Mo_sets : List zz_C := [(0, .aload_n 0, 1, []), (1, .getfield 16, 3, [1204]), (4, .bipush 12, 2, []), (6, .iload_n 1, 1, []), (7, .imul, 1, []), (8, .iload_n 2, 1, []), (9, .iadd, 1, []), (10, .iload_n 3, 1, []), (11, .iastore, 1, []), (12, .return_, 1, [])]
def p_Mo_sets : zz_P := (184, ⟨"TurnQueuesModel", "sets", "(III)V"⟩, prog_14_method_7_code, 4, none, q_Mo_sets)
set_option maxRecDepth 100000 in
theorem k_Mo_sets : zz_okP p_Mo_sets := ⟨by decide +kernel, zz_mem_r [1362] rfl (by decide +kernel)⟩
set_option maxRecDepth 100000 in
theorem o_Mo_sets : zz_okC p_Mo_sets false 12 4 := zz_okV (zz_mem_r (ws := [Cond.code p_Mo_sets.y p_Mo_sets.bytes p_Mo_sets.maxL p_Mo_sets.ret, Cond.initialized p_Mo_sets.y.cls, Cond.instanceMethod p_Mo_sets.y, Cond.selects p_Mo_sets.y.cls p_Mo_sets.y p_Mo_sets.y]) [1614, 109, 1613, 45] rfl (by decide +kernel)) rfl rfl (by decide +kernel) (by decide +kernel) rfl (by decide +kernel) rfl
def q_Mo_empties : List zz_C := [(0, .iconst 0, 1, []), (1, .istore_n 2, 1, []), (2, .iload_n 2, 1, []), (3, .bipush 12, 2, []), (5, .if_icmp .ge 26, 3, [17]), (8, .aload_n 0, 1, []), (9, .iload_n 1, 1, []), (10, .iload_n 2, 1, []), (11, .iload_n 2, 1, []), (12, .bipush 6, 2, []), (14, .if_icmp .ge 7, 3, [13]), (17, .iconst (-1), 1, []), (18, .goto 4, 3, [14]), (21, .iconst 0, 1, []), (22, .invokevirtual 97, 3, [184]), (25, .iinc 2 1, 3, []), (28, .goto (-26), 3, [2]), (31, .return_, 1, [])]
def p_Mo_empties : zz_P := (185, ⟨"TurnQueuesModel", "empties", "(I)V"⟩, prog_14_method_8_code, 3, none, q_Mo_empties)
set_option maxRecDepth 100000 in
theorem k_Mo_empties : zz_okP p_Mo_empties := ⟨by decide +kernel, zz_mem_r [1611] rfl (by decide +kernel)⟩
set_option maxRecDepth 100000 in
theorem o_Mo_empties : zz_okC p_Mo_empties false 12 2 := zz_okV (zz_mem_r (ws := [Cond.code p_Mo_empties.y p_Mo_empties.bytes p_Mo_empties.maxL p_Mo_empties.ret, Cond.initialized p_Mo_empties.y.cls, Cond.instanceMethod p_Mo_empties.y, Cond.selects p_Mo_empties.y.cls p_Mo_empties.y p_Mo_empties.y]) [1610, 109, 1609, 44] rfl (by decide +kernel)) rfl rfl (by decide +kernel) (by decide +kernel) rfl (by decide +kernel) rfl
def q_Mo_copies : List zz_C := [(0, .iconst 0, 1, []), (1, .istore_n 3, 1, []), (2, .iload_n 3, 1, []), (3, .bipush 12, 2, []), (5, .if_icmp .ge 21, 3, [15]), (8, .aload_n 0, 1, []), (9, .iload_n 2, 1, []), (10, .iload_n 3, 1, []), (11, .aload_n 0, 1, []), (12, .iload_n 1, 1, []), (13, .iload_n 3, 1, []), (14, .invokevirtual 101, 3, [183]), (17, .invokevirtual 97, 3, [184]), (20, .iinc 3 1, 3, []), (23, .goto (-21), 3, [2]), (26, .return_, 1, [])]
def p_Mo_copies : zz_P := (186, ⟨"TurnQueuesModel", "copies", "(II)V"⟩, prog_14_method_9_code, 4, none, q_Mo_copies)
set_option maxRecDepth 100000 in
theorem k_Mo_copies : zz_okP p_Mo_copies := ⟨by decide +kernel, zz_mem_r [1635, 1611] rfl (by decide +kernel)⟩
set_option maxRecDepth 100000 in
theorem o_Mo_copies : zz_okC p_Mo_copies false 12 3 := zz_okV (zz_mem_r (ws := [Cond.code p_Mo_copies.y p_Mo_copies.bytes p_Mo_copies.maxL p_Mo_copies.ret, Cond.initialized p_Mo_copies.y.cls, Cond.instanceMethod p_Mo_copies.y, Cond.selects p_Mo_copies.y.cls p_Mo_copies.y p_Mo_copies.y]) [1634, 109, 1633, 50] rfl (by decide +kernel)) rfl rfl (by decide +kernel) (by decide +kernel) rfl (by decide +kernel) rfl
def q_Mo_pushes : List zz_C := [(0, .aload_n 0, 1, []), (1, .iload_n 1, 1, []), (2, .iload_n 2, 1, []), (3, .aload_n 0, 1, []), (4, .iload_n 3, 1, []), (5, .aload_n 0, 1, []), (6, .iload_n 1, 1, []), (7, .iload_n 2, 1, []), (8, .invokevirtual 101, 3, [183]), (11, .invokevirtual 105, 3, [181]), (14, .invokevirtual 97, 3, [184]), (17, .return_, 1, [])]
def p_Mo_pushes : zz_P := (187, ⟨"TurnQueuesModel", "pushes", "(III)V"⟩, prog_14_method_10_code, 4, none, q_Mo_pushes)
set_option maxRecDepth 100000 in
theorem k_Mo_pushes : zz_okP p_Mo_pushes := ⟨by decide +kernel, zz_mem_r [1635, 1643, 1611] rfl (by decide +kernel)⟩
set_option maxRecDepth 100000 in
theorem o_Mo_pushes : zz_okC p_Mo_pushes false 12 4 := zz_okV (zz_mem_r (ws := [Cond.code p_Mo_pushes.y p_Mo_pushes.bytes p_Mo_pushes.maxL p_Mo_pushes.ret, Cond.initialized p_Mo_pushes.y.cls, Cond.instanceMethod p_Mo_pushes.y, Cond.selects p_Mo_pushes.y.cls p_Mo_pushes.y p_Mo_pushes.y]) [1642, 109, 1641, 52] rfl (by decide +kernel)) rfl rfl (by decide +kernel) (by decide +kernel) rfl (by decide +kernel) rfl
def q_Mo_pops : List zz_C := [(0, .aload_n 0, 1, []), (1, .iload_n 1, 1, []), (2, .iload_n 2, 1, []), (3, .invokevirtual 101, 3, [183]), (6, .istore_n 3, 1, []), (7, .aload_n 0, 1, []), (8, .iload_n 1, 1, []), (9, .iload_n 2, 1, []), (10, .aload_n 0, 1, []), (11, .getfield 13, 3, [1202]), (14, .iload_n 3, 1, []), (15, .iaload, 1, []), (16, .invokevirtual 97, 3, [184]), (19, .aload_n 0, 1, []), (20, .getfield 9, 3, [1201]), (23, .iload_n 3, 1, []), (24, .iaload, 1, []), (25, .ireturn, 1, [])]
def p_Mo_pops : zz_P := (188, ⟨"TurnQueuesModel", "pops", "(II)I"⟩, prog_14_method_11_code, 4, (some .int), q_Mo_pops)
set_option maxRecDepth 100000 in
theorem k_Mo_pops : zz_okP p_Mo_pops := ⟨by decide +kernel, zz_mem_r [1635, 1360, 1611, 1359] rfl (by decide +kernel)⟩
set_option maxRecDepth 100000 in
theorem o_Mo_pops : zz_okC p_Mo_pops false 12 3 := zz_okV (zz_mem_r (ws := [Cond.code p_Mo_pops.y p_Mo_pops.bytes p_Mo_pops.maxL p_Mo_pops.ret, Cond.initialized p_Mo_pops.y.cls, Cond.instanceMethod p_Mo_pops.y, Cond.selects p_Mo_pops.y.cls p_Mo_pops.y p_Mo_pops.y]) [1650, 109, 1649, 54] rfl (by decide +kernel)) rfl rfl (by decide +kernel) (by decide +kernel) rfl (by decide +kernel) rfl
def q_Mo_deeds : List zz_C := [(0, .aload_n 0, 1, []), (1, .iload_n 1, 1, []), (2, .iload_n 2, 1, []), (3, .invokevirtual 108, 3, [186]), (6, .aload_n 0, 1, []), (7, .iconst 1, 1, []), (8, .putfield 112, 3, [1207]), (11, .aload_n 0, 1, []), (12, .iconst 0, 1, []), (13, .putfield 115, 3, [1208]), (16, .aload_n 0, 1, []), (17, .iconst 0, 1, []), (18, .putfield 119, 3, [1209]), (21, .iload_n 3, 1, []), (22, .ifCond .ne 11, 3, [20]), (25, .aload_n 0, 1, []), (26, .iload_n 2, 1, []), (27, .iconst 1, 1, []), (28, .iload 4, 2, []), (30, .invokevirtual 122, 3, [187]), (33, .iload_n 3, 1, []), (34, .iconst 2, 1, []), (35, .if_icmp .ne 11, 3, [28]), (38, .aload_n 0, 1, []), (39, .iload_n 2, 1, []), (40, .iconst 0, 1, []), (41, .iload 4, 2, []), (43, .invokevirtual 122, 3, [187]), (46, .iload_n 3, 1, []), (47, .iconst 1, 1, []), (48, .if_icmp .ne 24, 3, [44]), (51, .aload_n 0, 1, []), (52, .iload_n 2, 1, []), (53, .aload_n 0, 1, []), (54, .iload_n 2, 1, []), (55, .iconst 0, 1, []), (56, .invokevirtual 101, 3, [183]), (59, .iconst (-1), 1, []), (60, .if_icmp .ne 7, 3, [41]), (63, .iconst 1, 1, []), (64, .goto 4, 3, [42]), (67, .iconst 0, 1, []), (68, .invokevirtual 125, 3, [188]), (71, .pop, 1, []), (72, .iload_n 3, 1, []), (73, .iconst 3, 1, []), (74, .if_icmp .ne 24, 3, [60]), (77, .aload_n 0, 1, []), (78, .iload_n 2, 1, []), (79, .aload_n 0, 1, []), (80, .iload_n 2, 1, []), (81, .iconst 1, 1, []), (82, .invokevirtual 101, 3, [183]), (85, .iconst (-1), 1, []), (86, .if_icmp .ne 7, 3, [57]), (89, .iconst 0, 1, []), (90, .goto 4, 3, [58]), (93, .iconst 1, 1, []), (94, .invokevirtual 125, 3, [188]), (97, .pop, 1, []), (98, .iload_n 3, 1, []), (99, .iconst 1, 1, []), (100, .if_icmp .eq 8, 3, [66]), (103, .iload_n 3, 1, []), (104, .iconst 3, 1, []), (105, .if_icmp .ne 7, 3, [68]), (108, .iconst 1, 1, []), (109, .goto 4, 3, [69]), (112, .iconst 0, 1, []), (113, .istore 5, 2, []), (115, .aload_n 0, 1, []), (116, .iload_n 2, 1, []), (117, .bipush 11, 2, []), (119, .aload_n 0, 1, []), (120, .iload_n 2, 1, []), (121, .bipush 11, 2, []), (123, .invokevirtual 101, 3, [183]), (126, .iload 5, 2, []), (128, .ifCond .eq 7, 3, [81]), (131, .iconst (-1), 1, []), (132, .goto 4, 3, [82]), (135, .iconst 1, 1, []), (136, .iadd, 1, []), (137, .invokevirtual 97, 3, [184]), (140, .aload_n 0, 1, []), (141, .getfield 128, 3, [1205]), (144, .ifCond .ne 8, 3, [90]), (147, .aload_n 0, 1, []), (148, .iload_n 2, 1, []), (149, .invokevirtual 131, 3, [190]), (152, .aload_n 0, 1, []), (153, .getfield 128, 3, [1205]), (156, .iconst 1, 1, []), (157, .if_icmp .ne 10, 3, [98]), (160, .aload_n 0, 1, []), (161, .iload_n 2, 1, []), (162, .iload 5, 2, []), (164, .invokevirtual 135, 3, [191]), (167, .aload_n 0, 1, []), (168, .getfield 128, 3, [1205]), (171, .iconst 2, 1, []), (172, .if_icmp .ne 18, 3, [110]), (175, .aload_n 0, 1, []), (176, .iload_n 2, 1, []), (177, .iload 5, 2, []), (179, .ifCond .eq 7, 3, [108]), (182, .iconst 2, 1, []), (183, .goto 4, 3, [109]), (186, .iconst 1, 1, []), (187, .invokevirtual 139, 3, [196]), (190, .aload_n 0, 1, []), (191, .getfield 112, 3, [1207]), (194, .ireturn, 1, [])]
def p_Mo_deeds : zz_P := (189, ⟨"TurnQueuesModel", "deeds", "(IIII)I"⟩, prog_14_method_12_code, 6, (some .int), q_Mo_deeds)
set_option maxRecDepth 100000 in
theorem k_Mo_deeds : zz_okP p_Mo_deeds := ⟨by decide +kernel, zz_mem_r [1631, 1365, 1366, 1367, 1639, 1639, 1635, 1647, 1635, 1647, 1635, 1611, 1363, 1651, 1363, 1655, 1363, 1679, 1365] rfl (by decide +kernel)⟩
set_option maxRecDepth 100000 in
theorem o_Mo_deeds : zz_okC p_Mo_deeds false 12 5 := zz_okV (zz_mem_r (ws := [Cond.code p_Mo_deeds.y p_Mo_deeds.bytes p_Mo_deeds.maxL p_Mo_deeds.ret, Cond.initialized p_Mo_deeds.y.cls, Cond.instanceMethod p_Mo_deeds.y, Cond.selects p_Mo_deeds.y.cls p_Mo_deeds.y p_Mo_deeds.y]) [1630, 109, 1629, 49] rfl (by decide +kernel)) rfl rfl (by decide +kernel) (by decide +kernel) rfl (by decide +kernel) rfl
def q_Mo_turnsAll : List zz_C := [(0, .aload_n 0, 1, []), (1, .iload_n 1, 1, []), (2, .iconst 0, 1, []), (3, .invokevirtual 101, 3, [183]), (6, .iconst (-1), 1, []), (7, .if_icmp .ne 13, 3, [12]), (10, .aload_n 0, 1, []), (11, .iload_n 1, 1, []), (12, .iconst 1, 1, []), (13, .invokevirtual 101, 3, [183]), (16, .iconst (-1), 1, []), (17, .if_icmp .ne 4, 3, [13]), (20, .return_, 1, []), (21, .aload_n 0, 1, []), (22, .iconst 1, 1, []), (23, .putfield 115, 3, [1208]), (26, .aload_n 0, 1, []), (27, .iload_n 1, 1, []), (28, .iconst 1, 1, []), (29, .invokevirtual 101, 3, [183]), (32, .iconst (-1), 1, []), (33, .if_icmp .eq 28, 3, [37]), (36, .aload_n 0, 1, []), (37, .iload_n 1, 1, []), (38, .iconst 0, 1, []), (39, .aload_n 0, 1, []), (40, .iload_n 1, 1, []), (41, .iconst 1, 1, []), (42, .invokevirtual 125, 3, [188]), (45, .invokevirtual 122, 3, [187]), (48, .aload_n 0, 1, []), (49, .dup, 1, []), (50, .getfield 112, 3, [1207]), (53, .iconst 1, 1, []), (54, .iadd, 1, []), (55, .putfield 112, 3, [1207]), (58, .goto (-32), 3, [16]), (61, .return_, 1, [])]
def p_Mo_turnsAll : zz_P := (190, ⟨"TurnQueuesModel", "turnsAll", "(I)V"⟩, prog_14_method_13_code, 2, none, q_Mo_turnsAll)
set_option maxRecDepth 100000 in
theorem k_Mo_turnsAll : zz_okP p_Mo_turnsAll := ⟨by decide +kernel, zz_mem_r [1635, 1635, 1366, 1635, 1647, 1639, 1365, 1365] rfl (by decide +kernel)⟩
set_option maxRecDepth 100000 in
theorem o_Mo_turnsAll : zz_okC p_Mo_turnsAll false 12 2 := zz_okV (zz_mem_r (ws := [Cond.code p_Mo_turnsAll.y p_Mo_turnsAll.bytes p_Mo_turnsAll.maxL p_Mo_turnsAll.ret, Cond.initialized p_Mo_turnsAll.y.cls, Cond.instanceMethod p_Mo_turnsAll.y, Cond.selects p_Mo_turnsAll.y.cls p_Mo_turnsAll.y p_Mo_turnsAll.y]) [1654, 109, 1653, 55] rfl (by decide +kernel)) rfl rfl (by decide +kernel) (by decide +kernel) rfl (by decide +kernel) rfl
def q_Mo_goesOn : List zz_C := [(0, .iload_n 2, 1, []), (1, .ifCond .eq 8, 3, [5]), (4, .aload_n 0, 1, []), (5, .iload_n 1, 1, []), (6, .invokevirtual 142, 3, [192]), (9, .aload_n 0, 1, []), (10, .aload_n 0, 1, []), (11, .iload_n 1, 1, []), (12, .iconst 1, 1, []), (13, .invokevirtual 101, 3, [183]), (16, .invokevirtual 145, 3, [182]), (19, .istore_n 3, 1, []), (20, .iload_n 3, 1, []), (21, .aload_n 0, 1, []), (22, .iload_n 1, 1, []), (23, .bipush 6, 2, []), (25, .invokevirtual 101, 3, [183]), (28, .if_icmp .le 9, 3, [22]), (31, .aload_n 0, 1, []), (32, .iload_n 1, 1, []), (33, .iload_n 3, 1, []), (34, .invokevirtual 149, 3, [194]), (37, .aload_n 0, 1, []), (38, .iload_n 1, 1, []), (39, .invokevirtual 152, 3, [195]), (42, .aload_n 0, 1, []), (43, .iload_n 1, 1, []), (44, .invokevirtual 152, 3, [195]), (47, .aload_n 0, 1, []), (48, .iload_n 1, 1, []), (49, .bipush 7, 2, []), (51, .invokevirtual 101, 3, [183]), (54, .iconst 3, 1, []), (55, .if_icmp .eq 4, 3, [35]), (58, .return_, 1, []), (59, .aload_n 0, 1, []), (60, .iload_n 1, 1, []), (61, .iconst 0, 1, []), (62, .aload_n 0, 1, []), (63, .iload_n 1, 1, []), (64, .iconst 5, 1, []), (65, .invokevirtual 101, 3, [183]), (68, .invokevirtual 97, 3, [184]), (71, .aload_n 0, 1, []), (72, .iload_n 1, 1, []), (73, .iconst 5, 1, []), (74, .iconst (-1), 1, []), (75, .invokevirtual 97, 3, [184]), (78, .aload_n 0, 1, []), (79, .iload_n 1, 1, []), (80, .bipush 7, 2, []), (82, .iconst 0, 1, []), (83, .invokevirtual 97, 3, [184]), (86, .aload_n 0, 1, []), (87, .iload_n 1, 1, []), (88, .bipush 8, 2, []), (90, .iconst 0, 1, []), (91, .invokevirtual 97, 3, [184]), (94, .return_, 1, [])]
def p_Mo_goesOn : zz_P := (191, ⟨"TurnQueuesModel", "goesOn", "(IZ)V"⟩, prog_14_method_14_code, 4, none, q_Mo_goesOn)
set_option maxRecDepth 100000 in
theorem k_Mo_goesOn : zz_okP p_Mo_goesOn := ⟨by decide +kernel, zz_mem_r [1659, 1635, 1667, 1635, 1671, 1675, 1675, 1635, 1635, 1611, 1611, 1611, 1611] rfl (by decide +kernel)⟩
set_option maxRecDepth 100000 in
theorem o_Mo_goesOn : zz_okC p_Mo_goesOn false 12 3 := zz_okV (zz_mem_r (ws := [Cond.code p_Mo_goesOn.y p_Mo_goesOn.bytes p_Mo_goesOn.maxL p_Mo_goesOn.ret, Cond.initialized p_Mo_goesOn.y.cls, Cond.instanceMethod p_Mo_goesOn.y, Cond.selects p_Mo_goesOn.y.cls p_Mo_goesOn.y p_Mo_goesOn.y]) [1658, 109, 1657, 56] rfl (by decide +kernel)) rfl rfl (by decide +kernel) (by decide +kernel) rfl (by decide +kernel) rfl
def q_Mo_takenBy : List zz_C := [(0, .aload_n 0, 1, []), (1, .iload_n 1, 1, []), (2, .bipush 6, 2, []), (4, .aload_n 0, 1, []), (5, .iload_n 1, 1, []), (6, .bipush 6, 2, []), (8, .invokevirtual 101, 3, [183]), (11, .iconst 1, 1, []), (12, .isub, 1, []), (13, .invokevirtual 97, 3, [184]), (16, .aload_n 0, 1, []), (17, .iload_n 1, 1, []), (18, .bipush 7, 2, []), (20, .invokevirtual 101, 3, [183]), (23, .istore_n 2, 1, []), (24, .iload_n 2, 1, []), (25, .iconst 2, 1, []), (26, .if_icmp .ne 28, 3, [32]), (29, .aload_n 0, 1, []), (30, .iload_n 1, 1, []), (31, .bipush 8, 2, []), (33, .invokevirtual 101, 3, [183]), (36, .ifCond .ne 18, 3, [32]), (39, .aload_n 0, 1, []), (40, .iload_n 1, 1, []), (41, .iconst 5, 1, []), (42, .invokevirtual 125, 3, [188]), (45, .pop, 1, []), (46, .aload_n 0, 1, []), (47, .iload_n 1, 1, []), (48, .invokevirtual 155, 3, [193]), (51, .goto 23, 3, [44]), (54, .iload_n 2, 1, []), (55, .ifCond .eq 19, 3, [44]), (58, .aload_n 0, 1, []), (59, .iload_n 1, 1, []), (60, .bipush 8, 2, []), (62, .aload_n 0, 1, []), (63, .iload_n 1, 1, []), (64, .bipush 8, 2, []), (66, .invokevirtual 101, 3, [183]), (69, .iconst 1, 1, []), (70, .isub, 1, []), (71, .invokevirtual 97, 3, [184]), (74, .return_, 1, [])]
def p_Mo_takenBy : zz_P := (192, ⟨"TurnQueuesModel", "takenBy", "(I)V"⟩, prog_14_method_15_code, 3, none, q_Mo_takenBy)
set_option maxRecDepth 100000 in
theorem k_Mo_takenBy : zz_okP p_Mo_takenBy := ⟨by decide +kernel, zz_mem_r [1635, 1611, 1635, 1635, 1647, 1663, 1635, 1611] rfl (by decide +kernel)⟩
set_option maxRecDepth 100000 in
theorem o_Mo_takenBy : zz_okC p_Mo_takenBy false 12 2 := zz_okV (zz_mem_r (ws := [Cond.code p_Mo_takenBy.y p_Mo_takenBy.bytes p_Mo_takenBy.maxL p_Mo_takenBy.ret, Cond.initialized p_Mo_takenBy.y.cls, Cond.instanceMethod p_Mo_takenBy.y, Cond.selects p_Mo_takenBy.y.cls p_Mo_takenBy.y p_Mo_takenBy.y]) [1662, 109, 1661, 57] rfl (by decide +kernel)) rfl rfl (by decide +kernel) (by decide +kernel) rfl (by decide +kernel) rfl
def q_Mo_becomesReady : List zz_C := [(0, .aload_n 0, 1, []), (1, .iload_n 1, 1, []), (2, .bipush 7, 2, []), (4, .iconst 3, 1, []), (5, .invokevirtual 97, 3, [184]), (8, .aload_n 0, 1, []), (9, .iload_n 1, 1, []), (10, .iconst 3, 1, []), (11, .iconst (-1), 1, []), (12, .invokevirtual 97, 3, [184]), (15, .return_, 1, [])]
def p_Mo_becomesReady : zz_P := (193, ⟨"TurnQueuesModel", "becomesReady", "(I)V"⟩, prog_14_method_16_code, 2, none, q_Mo_becomesReady)
set_option maxRecDepth 100000 in
theorem k_Mo_becomesReady : zz_okP p_Mo_becomesReady := ⟨by decide +kernel, zz_mem_r [1611, 1611] rfl (by decide +kernel)⟩
set_option maxRecDepth 100000 in
theorem o_Mo_becomesReady : zz_okC p_Mo_becomesReady false 12 2 := zz_okV (zz_mem_r (ws := [Cond.code p_Mo_becomesReady.y p_Mo_becomesReady.bytes p_Mo_becomesReady.maxL p_Mo_becomesReady.ret, Cond.initialized p_Mo_becomesReady.y.cls, Cond.instanceMethod p_Mo_becomesReady.y, Cond.selects p_Mo_becomesReady.y.cls p_Mo_becomesReady.y p_Mo_becomesReady.y]) [1666, 109, 1665, 58] rfl (by decide +kernel)) rfl rfl (by decide +kernel) (by decide +kernel) rfl (by decide +kernel) rfl
def q_Mo_begins : List zz_C := [(0, .aload_n 0, 1, []), (1, .iconst 1, 1, []), (2, .putfield 115, 3, [1208]), (5, .aload_n 0, 1, []), (6, .aload_n 0, 1, []), (7, .iload_n 1, 1, []), (8, .bipush 7, 2, []), (10, .invokevirtual 101, 3, [183]), (13, .ifCond .eq 7, 3, [11]), (16, .iconst 1, 1, []), (17, .goto 4, 3, [12]), (20, .iconst 0, 1, []), (21, .putfield 119, 3, [1209]), (24, .aload_n 0, 1, []), (25, .iload_n 1, 1, []), (26, .bipush 7, 2, []), (28, .iconst 1, 1, []), (29, .invokevirtual 97, 3, [184]), (32, .aload_n 0, 1, []), (33, .iload_n 1, 1, []), (34, .bipush 8, 2, []), (36, .iconst 0, 1, []), (37, .invokevirtual 97, 3, [184]), (40, .aload_n 0, 1, []), (41, .iload_n 1, 1, []), (42, .iconst 2, 1, []), (43, .aload_n 0, 1, []), (44, .iload_n 1, 1, []), (45, .iconst 0, 1, []), (46, .invokevirtual 101, 3, [183]), (49, .invokevirtual 97, 3, [184]), (52, .aload_n 0, 1, []), (53, .iload_n 1, 1, []), (54, .iconst 4, 1, []), (55, .aload_n 0, 1, []), (56, .iload_n 1, 1, []), (57, .iconst 1, 1, []), (58, .invokevirtual 101, 3, [183]), (61, .invokevirtual 97, 3, [184]), (64, .aload_n 0, 1, []), (65, .iload_n 1, 1, []), (66, .iconst 3, 1, []), (67, .iconst (-1), 1, []), (68, .invokevirtual 97, 3, [184]), (71, .aload_n 0, 1, []), (72, .iload_n 1, 1, []), (73, .iconst 5, 1, []), (74, .iconst (-1), 1, []), (75, .invokevirtual 97, 3, [184]), (78, .aload_n 0, 1, []), (79, .iload_n 1, 1, []), (80, .bipush 6, 2, []), (82, .aload_n 0, 1, []), (83, .iload_n 1, 1, []), (84, .bipush 6, 2, []), (86, .invokevirtual 101, 3, [183]), (89, .iload_n 2, 1, []), (90, .iadd, 1, []), (91, .invokevirtual 97, 3, [184]), (94, .aload_n 0, 1, []), (95, .iload_n 1, 1, []), (96, .iconst 1, 1, []), (97, .iconst (-1), 1, []), (98, .invokevirtual 97, 3, [184]), (101, .return_, 1, [])]
def p_Mo_begins : zz_P := (194, ⟨"TurnQueuesModel", "begins", "(II)V"⟩, prog_14_method_17_code, 3, none, q_Mo_begins)
set_option maxRecDepth 100000 in
theorem k_Mo_begins : zz_okP p_Mo_begins := ⟨by decide +kernel, zz_mem_r [1366, 1635, 1367, 1611, 1611, 1635, 1611, 1635, 1611, 1611, 1611, 1635, 1611, 1611] rfl (by decide +kernel)⟩
set_option maxRecDepth 100000 in
theorem o_Mo_begins : zz_okC p_Mo_begins false 12 3 := zz_okV (zz_mem_r (ws := [Cond.code p_Mo_begins.y p_Mo_begins.bytes p_Mo_begins.maxL p_Mo_begins.ret, Cond.initialized p_Mo_begins.y.cls, Cond.instanceMethod p_Mo_begins.y, Cond.selects p_Mo_begins.y.cls p_Mo_begins.y p_Mo_begins.y]) [1674, 109, 1673, 60] rfl (by decide +kernel)) rfl rfl (by decide +kernel) (by decide +kernel) rfl (by decide +kernel) rfl
def q_Mo_turns : List zz_C := [(0, .aload_n 0, 1, []), (1, .iload_n 1, 1, []), (2, .bipush 7, 2, []), (4, .invokevirtual 101, 3, [183]), (7, .istore_n 2, 1, []), (8, .iload_n 2, 1, []), (9, .ifCond .eq 8, 3, [10]), (12, .iload_n 2, 1, []), (13, .iconst 3, 1, []), (14, .if_icmp .ne 4, 3, [11]), (17, .return_, 1, []), (18, .aload_n 0, 1, []), (19, .dup, 1, []), (20, .getfield 112, 3, [1207]), (23, .iconst 1, 1, []), (24, .iadd, 1, []), (25, .putfield 112, 3, [1207]), (28, .iload_n 2, 1, []), (29, .iconst 1, 1, []), (30, .if_icmp .ne 86, 3, [70]), (33, .aload_n 0, 1, []), (34, .iload_n 1, 1, []), (35, .iconst 2, 1, []), (36, .invokevirtual 101, 3, [183]), (39, .iconst (-1), 1, []), (40, .if_icmp .eq 7, 3, [28]), (43, .iconst 1, 1, []), (44, .goto 4, 3, [29]), (47, .iconst 0, 1, []), (48, .istore_n 3, 1, []), (49, .iload_n 3, 1, []), (50, .ifCond .eq 15, 3, [40]), (53, .aload_n 0, 1, []), (54, .iload_n 1, 1, []), (55, .iconst 3, 1, []), (56, .aload_n 0, 1, []), (57, .iload_n 1, 1, []), (58, .iconst 2, 1, []), (59, .invokevirtual 125, 3, [188]), (62, .invokevirtual 122, 3, [187]), (65, .aload_n 0, 1, []), (66, .iload_n 1, 1, []), (67, .iconst 5, 1, []), (68, .aload_n 0, 1, []), (69, .iload_n 1, 1, []), (70, .iconst 4, 1, []), (71, .invokevirtual 125, 3, [188]), (74, .invokevirtual 122, 3, [187]), (77, .aload_n 0, 1, []), (78, .iload_n 1, 1, []), (79, .bipush 8, 2, []), (81, .aload_n 0, 1, []), (82, .iload_n 1, 1, []), (83, .bipush 8, 2, []), (85, .invokevirtual 101, 3, [183]), (88, .iload_n 3, 1, []), (89, .ifCond .eq 7, 3, [59]), (92, .iconst 1, 1, []), (93, .goto 4, 3, [60]), (96, .iconst 0, 1, []), (97, .iadd, 1, []), (98, .invokevirtual 97, 3, [184]), (101, .iload_n 3, 1, []), (102, .ifCond .ne 11, 3, [69]), (105, .aload_n 0, 1, []), (106, .iload_n 1, 1, []), (107, .bipush 7, 2, []), (109, .iconst 2, 1, []), (110, .invokevirtual 97, 3, [184]), (113, .goto 49, 3, [97]), (116, .aload_n 0, 1, []), (117, .iload_n 1, 1, []), (118, .bipush 8, 2, []), (120, .invokevirtual 101, 3, [183]), (123, .ifCond .ne 11, 3, [79]), (126, .aload_n 0, 1, []), (127, .iload_n 1, 1, []), (128, .invokevirtual 155, 3, [193]), (131, .goto 31, 3, [97]), (134, .aload_n 0, 1, []), (135, .iload_n 1, 1, []), (136, .iconst 5, 1, []), (137, .aload_n 0, 1, []), (138, .iload_n 1, 1, []), (139, .iconst 3, 1, []), (140, .invokevirtual 125, 3, [188]), (143, .invokevirtual 122, 3, [187]), (146, .aload_n 0, 1, []), (147, .iload_n 1, 1, []), (148, .bipush 8, 2, []), (150, .aload_n 0, 1, []), (151, .iload_n 1, 1, []), (152, .bipush 8, 2, []), (154, .invokevirtual 101, 3, [183]), (157, .iconst 1, 1, []), (158, .isub, 1, []), (159, .invokevirtual 97, 3, [184]), (162, .return_, 1, [])]
def p_Mo_turns : zz_P := (195, ⟨"TurnQueuesModel", "turns", "(I)V"⟩, prog_14_method_18_code, 4, none, q_Mo_turns)
set_option maxRecDepth 100000 in
theorem k_Mo_turns : zz_okP p_Mo_turns := ⟨by decide +kernel, zz_mem_r [1635, 1365, 1365, 1635, 1647, 1639, 1647, 1639, 1635, 1611, 1611, 1635, 1663, 1647, 1639, 1635, 1611] rfl (by decide +kernel)⟩
set_option maxRecDepth 100000 in
theorem o_Mo_turns : zz_okC p_Mo_turns false 12 2 := zz_okV (zz_mem_r (ws := [Cond.code p_Mo_turns.y p_Mo_turns.bytes p_Mo_turns.maxL p_Mo_turns.ret, Cond.initialized p_Mo_turns.y.cls, Cond.instanceMethod p_Mo_turns.y, Cond.selects p_Mo_turns.y.cls p_Mo_turns.y p_Mo_turns.y]) [1678, 109, 1677, 61] rfl (by decide +kernel)) rfl rfl (by decide +kernel) (by decide +kernel) rfl (by decide +kernel) rfl
def q_Mo_evens : List zz_C := [(0, .iconst 0, 1, []), (1, .istore_n 3, 1, []), (2, .iload_n 3, 1, []), (3, .iconst 2, 1, []), (4, .if_icmp .ge 56, 3, [36]), (7, .iload_n 2, 1, []), (8, .aload_n 0, 1, []), (9, .iload_n 1, 1, []), (10, .bipush 9, 2, []), (12, .iload_n 3, 1, []), (13, .iadd, 1, []), (14, .invokevirtual 101, 3, [183]), (17, .invokestatic 158, 3, [300]), (20, .istore 4, 2, []), (22, .aload_n 0, 1, []), (23, .iload_n 1, 1, []), (24, .bipush 9, 2, []), (26, .iload_n 3, 1, []), (27, .iadd, 1, []), (28, .aload_n 0, 1, []), (29, .iload_n 1, 1, []), (30, .bipush 9, 2, []), (32, .iload_n 3, 1, []), (33, .iadd, 1, []), (34, .invokevirtual 101, 3, [183]), (37, .iload 4, 2, []), (39, .isub, 1, []), (40, .invokevirtual 97, 3, [184]), (43, .aload_n 0, 1, []), (44, .dup, 1, []), (45, .getfield 112, 3, [1207]), (48, .iload 4, 2, []), (50, .iadd, 1, []), (51, .putfield 112, 3, [1207]), (54, .iinc 3 1, 3, []), (57, .goto (-55), 3, [2]), (60, .aload_n 0, 1, []), (61, .aload_n 0, 1, []), (62, .iload_n 1, 1, []), (63, .iconst 0, 1, []), (64, .invokevirtual 101, 3, [183]), (67, .invokevirtual 145, 3, [182]), (70, .istore_n 3, 1, []), (71, .aload_n 0, 1, []), (72, .aload_n 0, 1, []), (73, .iload_n 1, 1, []), (74, .iconst 1, 1, []), (75, .invokevirtual 101, 3, [183]), (78, .invokevirtual 145, 3, [182]), (81, .istore 4, 2, []), (83, .iload_n 3, 1, []), (84, .aload_n 0, 1, []), (85, .getfield 163, 3, [1206]), (88, .iload 4, 2, []), (90, .imul, 1, []), (91, .iconst 1, 1, []), (92, .iadd, 1, []), (93, .if_icmp .le 13, 3, [64]), (96, .aload_n 0, 1, []), (97, .iload_n 1, 1, []), (98, .iconst 0, 1, []), (99, .iconst 1, 1, []), (100, .invokevirtual 166, 3, [197]), (103, .goto 23, 3, [77]), (106, .iload 4, 2, []), (108, .aload_n 0, 1, []), (109, .getfield 163, 3, [1206]), (112, .iload_n 3, 1, []), (113, .imul, 1, []), (114, .iconst 1, 1, []), (115, .iadd, 1, []), (116, .if_icmp .le 10, 3, [77]), (119, .aload_n 0, 1, []), (120, .iload_n 1, 1, []), (121, .iconst 1, 1, []), (122, .iconst 0, 1, []), (123, .invokevirtual 166, 3, [197]), (126, .return_, 1, [])]
def p_Mo_evens : zz_P := (196, ⟨"TurnQueuesModel", "evens", "(II)V"⟩, prog_14_method_19_code, 5, none, q_Mo_evens)
set_option maxRecDepth 100000 in
theorem k_Mo_evens : zz_okP p_Mo_evens := ⟨by decide +kernel, zz_mem_r [1635, 1565, 1635, 1611, 1365, 1365, 1635, 1667, 1635, 1667, 1364, 1683, 1364, 1683] rfl (by decide +kernel)⟩
set_option maxRecDepth 100000 in
theorem o_Mo_evens : zz_okC p_Mo_evens false 12 3 := zz_okV (zz_mem_r (ws := [Cond.code p_Mo_evens.y p_Mo_evens.bytes p_Mo_evens.maxL p_Mo_evens.ret, Cond.initialized p_Mo_evens.y.cls, Cond.instanceMethod p_Mo_evens.y, Cond.selects p_Mo_evens.y.cls p_Mo_evens.y p_Mo_evens.y]) [1682, 109, 1681, 62] rfl (by decide +kernel)) rfl rfl (by decide +kernel) (by decide +kernel) rfl (by decide +kernel) rfl
def q_Mo_evensBy : List zz_C := [(0, .aload_n 0, 1, []), (1, .iconst 1, 1, []), (2, .putfield 115, 3, [1208]), (5, .aload_n 0, 1, []), (6, .aload_n 0, 1, []), (7, .iload_n 1, 1, []), (8, .bipush 9, 2, []), (10, .invokevirtual 101, 3, [183]), (13, .ifCond .gt 13, 3, [14]), (16, .aload_n 0, 1, []), (17, .iload_n 1, 1, []), (18, .bipush 10, 2, []), (20, .invokevirtual 101, 3, [183]), (23, .ifCond .le 7, 3, [16]), (26, .iconst 1, 1, []), (27, .goto 4, 3, [17]), (30, .iconst 0, 1, []), (31, .putfield 119, 3, [1209]), (34, .iconst 0, 1, []), (35, .istore 4, 2, []), (37, .aload_n 0, 1, []), (38, .iload_n 1, 1, []), (39, .iload_n 2, 1, []), (40, .invokevirtual 101, 3, [183]), (43, .istore 5, 2, []), (45, .iload 5, 2, []), (47, .iconst (-1), 1, []), (48, .if_icmp .eq 32, 3, [43]), (51, .aload_n 0, 1, []), (52, .getfield 19, 3, [1210]), (55, .iload 4, 2, []), (57, .aload_n 0, 1, []), (58, .getfield 9, 3, [1201]), (61, .iload 5, 2, []), (63, .iaload, 1, []), (64, .iastore, 1, []), (65, .iinc 4 1, 3, []), (68, .aload_n 0, 1, []), (69, .getfield 13, 3, [1202]), (72, .iload 5, 2, []), (74, .iaload, 1, []), (75, .istore 5, 2, []), (77, .goto (-32), 3, [25]), (80, .iload 4, 2, []), (82, .aload_n 0, 1, []), (83, .aload_n 0, 1, []), (84, .iload_n 1, 1, []), (85, .iload_n 3, 1, []), (86, .invokevirtual 101, 3, [183]), (89, .invokevirtual 145, 3, [182]), (92, .iadd, 1, []), (93, .istore 5, 2, []), (95, .iload 5, 2, []), (97, .iconst 2, 1, []), (98, .idiv, 1, []), (99, .istore 6, 2, []), (101, .aload_n 0, 1, []), (102, .iload_n 1, 1, []), (103, .iload_n 3, 1, []), (104, .invokevirtual 101, 3, [183]), (107, .istore 7, 2, []), (109, .iconst (-1), 1, []), (110, .istore 8, 2, []), (112, .iload 6, 2, []), (114, .iconst 1, 1, []), (115, .isub, 1, []), (116, .istore 9, 2, []), (118, .iload 9, 2, []), (120, .ifCond .lt 24, 3, [79]), (123, .aload_n 0, 1, []), (124, .aload_n 0, 1, []), (125, .getfield 19, 3, [1210]), (128, .iload 9, 2, []), (130, .iaload, 1, []), (131, .iload 8, 2, []), (133, .invokevirtual 105, 3, [181]), (136, .istore 8, 2, []), (138, .iinc 9 (-1), 3, []), (141, .goto (-23), 3, [67]), (144, .aload_n 0, 1, []), (145, .iload_n 1, 1, []), (146, .iload_n 2, 1, []), (147, .iload 8, 2, []), (149, .invokevirtual 97, 3, [184]), (152, .iconst (-1), 1, []), (153, .istore 8, 2, []), (155, .iload 6, 2, []), (157, .istore 9, 2, []), (159, .iload 9, 2, []), (161, .iload 4, 2, []), (163, .if_icmp .ge 24, 3, [101]), (166, .aload_n 0, 1, []), (167, .aload_n 0, 1, []), (168, .getfield 19, 3, [1210]), (171, .iload 9, 2, []), (173, .iaload, 1, []), (174, .iload 8, 2, []), (176, .invokevirtual 105, 3, [181]), (179, .istore 8, 2, []), (181, .iinc 9 1, 3, []), (184, .goto (-25), 3, [88]), (187, .iconst 0, 1, []), (188, .istore 9, 2, []), (190, .iload 7, 2, []), (192, .istore 10, 2, []), (194, .iload 10, 2, []), (196, .iconst (-1), 1, []), (197, .if_icmp .eq 32, 3, [123]), (200, .aload_n 0, 1, []), (201, .getfield 19, 3, [1210]), (204, .iload 9, 2, []), (206, .aload_n 0, 1, []), (207, .getfield 9, 3, [1201]), (210, .iload 10, 2, []), (212, .iaload, 1, []), (213, .iastore, 1, []), (214, .iinc 9 1, 3, []), (217, .aload_n 0, 1, []), (218, .getfield 13, 3, [1202]), (221, .iload 10, 2, []), (223, .iaload, 1, []), (224, .istore 10, 2, []), (226, .goto (-32), 3, [105]), (229, .iload 9, 2, []), (231, .iconst 1, 1, []), (232, .isub, 1, []), (233, .istore 10, 2, []), (235, .iload 10, 2, []), (237, .ifCond .lt 24, 3, [139]), (240, .aload_n 0, 1, []), (241, .aload_n 0, 1, []), (242, .getfield 19, 3, [1210]), (245, .iload 10, 2, []), (247, .iaload, 1, []), (248, .iload 8, 2, []), (250, .invokevirtual 105, 3, [181]), (253, .istore 8, 2, []), (255, .iinc 10 (-1), 3, []), (258, .goto (-23), 3, [127]), (261, .aload_n 0, 1, []), (262, .iload_n 1, 1, []), (263, .iload_n 3, 1, []), (264, .iload 8, 2, []), (266, .invokevirtual 97, 3, [184]), (269, .aload_n 0, 1, []), (270, .iload_n 1, 1, []), (271, .bipush 9, 2, []), (273, .iload_n 2, 1, []), (274, .iadd, 1, []), (275, .iload 6, 2, []), (277, .invokevirtual 97, 3, [184]), (280, .aload_n 0, 1, []), (281, .iload_n 1, 1, []), (282, .bipush 9, 2, []), (284, .iload_n 3, 1, []), (285, .iadd, 1, []), (286, .iload 5, 2, []), (288, .iload 6, 2, []), (290, .isub, 1, []), (291, .invokevirtual 97, 3, [184]), (294, .return_, 1, [])]
def p_Mo_evensBy : zz_P := (197, ⟨"TurnQueuesModel", "evensBy", "(III)V"⟩, prog_14_method_20_code, 11, none, q_Mo_evensBy)
set_option maxRecDepth 100000 in
theorem k_Mo_evensBy : zz_okP p_Mo_evensBy := ⟨by decide +kernel, zz_mem_r [1366, 1635, 1635, 1367, 1635, 1368, 1359, 1360, 1635, 1667, 1635, 1368, 1643, 1611, 1368, 1643, 1368, 1359, 1360, 1368, 1643, 1611, 1611, 1611] rfl (by decide +kernel)⟩
set_option maxRecDepth 100000 in
theorem o_Mo_evensBy : zz_okC p_Mo_evensBy false 12 4 := zz_okV (zz_mem_r (ws := [Cond.code p_Mo_evensBy.y p_Mo_evensBy.bytes p_Mo_evensBy.maxL p_Mo_evensBy.ret, Cond.initialized p_Mo_evensBy.y.cls, Cond.instanceMethod p_Mo_evensBy.y, Cond.selects p_Mo_evensBy.y.cls p_Mo_evensBy.y p_Mo_evensBy.y]) [1686, 109, 1685, 63] rfl (by decide +kernel)) rfl rfl (by decide +kernel) (by decide +kernel) rfl (by decide +kernel) rfl
def q_Mo_asked : List zz_C := [(0, .aload_n 0, 1, []), (1, .getfield 41, 3, [1222]), (4, .bipush 64, 2, []), (6, .iload_n 1, 1, []), (7, .imul, 1, []), (8, .iload_n 2, 1, []), (9, .iadd, 1, []), (10, .iaload, 1, []), (11, .ireturn, 1, [])]
def p_Mo_asked : zz_P := (198, ⟨"TurnQueuesModel", "asked", "(II)I"⟩, prog_14_method_21_code, 3, (some .int), q_Mo_asked)
set_option maxRecDepth 100000 in
theorem k_Mo_asked : zz_okP p_Mo_asked := ⟨by decide +kernel, zz_mem_r [1380] rfl (by decide +kernel)⟩
set_option maxRecDepth 100000 in
theorem o_Mo_asked : zz_okC p_Mo_asked false 12 3 := zz_okV (zz_mem_r (ws := [Cond.code p_Mo_asked.y p_Mo_asked.bytes p_Mo_asked.maxL p_Mo_asked.ret, Cond.initialized p_Mo_asked.y.cls, Cond.instanceMethod p_Mo_asked.y, Cond.selects p_Mo_asked.y.cls p_Mo_asked.y p_Mo_asked.y]) [1622, 109, 1621, 47] rfl (by decide +kernel)) rfl rfl (by decide +kernel) (by decide +kernel) rfl (by decide +kernel) rfl
def q_Mo_laysQueue : List zz_C := [(0, .aload_n 0, 1, []), (1, .getfield 44, 3, [1223]), (4, .iload_n 1, 1, []), (5, .iaload, 1, []), (6, .istore 5, 2, []), (8, .iload_n 3, 1, []), (9, .iconst 1, 1, []), (10, .if_icmp .ne 7, 3, [10]), (13, .iconst 1, 1, []), (14, .goto 4, 3, [11]), (17, .iconst 0, 1, []), (18, .istore 6, 2, []), (20, .iload_n 3, 1, []), (21, .iconst 3, 1, []), (22, .if_icmp .ne 10, 3, [19]), (25, .iload 5, 2, []), (27, .iconst 1, 1, []), (28, .isub, 1, []), (29, .goto 5, 3, [20]), (32, .iload 5, 2, []), (34, .istore 7, 2, []), (36, .iconst 0, 1, []), (37, .istore 8, 2, []), (39, .iload_n 3, 1, []), (40, .iconst 2, 1, []), (41, .if_icmp .ne 17, 3, [35]), (44, .aload_n 0, 1, []), (45, .getfield 41, 3, [1222]), (48, .bipush 64, 2, []), (50, .iload_n 2, 1, []), (51, .imul, 1, []), (52, .iload 4, 2, []), (54, .iastore, 1, []), (55, .iconst 1, 1, []), (56, .istore 8, 2, []), (58, .iload 6, 2, []), (60, .istore 9, 2, []), (62, .iload 9, 2, []), (64, .iload 7, 2, []), (66, .if_icmp .ge 31, 3, [55]), (69, .aload_n 0, 1, []), (70, .getfield 41, 3, [1222]), (73, .bipush 64, 2, []), (75, .iload_n 2, 1, []), (76, .imul, 1, []), (77, .iload 8, 2, []), (79, .iadd, 1, []), (80, .aload_n 0, 1, []), (81, .iload_n 1, 1, []), (82, .iload 9, 2, []), (84, .invokevirtual 169, 3, [198]), (87, .iastore, 1, []), (88, .iinc 8 1, 3, []), (91, .iinc 9 1, 3, []), (94, .goto (-32), 3, [37]), (97, .iload_n 3, 1, []), (98, .ifCond .ne 20, 3, [67]), (101, .aload_n 0, 1, []), (102, .getfield 41, 3, [1222]), (105, .bipush 64, 2, []), (107, .iload_n 2, 1, []), (108, .imul, 1, []), (109, .iload 8, 2, []), (111, .iadd, 1, []), (112, .iload 4, 2, []), (114, .iastore, 1, []), (115, .iinc 8 1, 3, []), (118, .aload_n 0, 1, []), (119, .getfield 44, 3, [1223]), (122, .iload_n 2, 1, []), (123, .iload 8, 2, []), (125, .iastore, 1, []), (126, .return_, 1, [])]
def p_Mo_laysQueue : zz_P := (199, ⟨"TurnQueuesModel", "laysQueue", "(IIII)V"⟩, prog_14_method_22_code, 10, none, q_Mo_laysQueue)
set_option maxRecDepth 100000 in
theorem k_Mo_laysQueue : zz_okP p_Mo_laysQueue := ⟨by decide +kernel, zz_mem_r [1381, 1380, 1380, 1619, 1380, 1381] rfl (by decide +kernel)⟩
set_option maxRecDepth 100000 in
theorem o_Mo_laysQueue : zz_okC p_Mo_laysQueue false 12 5 := zz_okV (zz_mem_r (ws := [Cond.code p_Mo_laysQueue.y p_Mo_laysQueue.bytes p_Mo_laysQueue.maxL p_Mo_laysQueue.ret, Cond.initialized p_Mo_laysQueue.y.cls, Cond.instanceMethod p_Mo_laysQueue.y, Cond.selects p_Mo_laysQueue.y.cls p_Mo_laysQueue.y p_Mo_laysQueue.y]) [1626, 109, 1625, 48] rfl (by decide +kernel)) rfl rfl (by decide +kernel) (by decide +kernel) rfl (by decide +kernel) rfl
def q_Mo_makes : List zz_C := [(0, .aload_n 0, 1, []), (1, .getfield 172, 3, [1215]), (4, .istore 4, 2, []), (6, .aload_n 0, 1, []), (7, .getfield 38, 3, [1221]), (10, .iload 4, 2, []), (12, .aload_n 0, 1, []), (13, .getfield 94, 3, [1203]), (16, .iastore, 1, []), (17, .iload_n 2, 1, []), (18, .iconst 1, 1, []), (19, .if_icmp .ne 12, 3, [17]), (22, .aload_n 0, 1, []), (23, .iload_n 1, 1, []), (24, .iconst 0, 1, []), (25, .invokevirtual 169, 3, [198]), (28, .goto 25, 3, [31]), (31, .iload_n 2, 1, []), (32, .iconst 3, 1, []), (33, .if_icmp .ne 19, 3, [30]), (36, .aload_n 0, 1, []), (37, .iload_n 1, 1, []), (38, .aload_n 0, 1, []), (39, .getfield 44, 3, [1223]), (42, .iload_n 1, 1, []), (43, .iaload, 1, []), (44, .iconst 1, 1, []), (45, .isub, 1, []), (46, .invokevirtual 169, 3, [198]), (49, .goto 4, 3, [31]), (52, .iload_n 3, 1, []), (53, .istore 5, 2, []), (55, .aload_n 0, 1, []), (56, .iload_n 1, 1, []), (57, .iload 4, 2, []), (59, .iload_n 2, 1, []), (60, .iload_n 3, 1, []), (61, .invokevirtual 175, 3, [199]), (64, .aload_n 0, 1, []), (65, .getfield 31, 3, [1219]), (68, .iload 4, 2, []), (70, .aload_n 0, 1, []), (71, .iload_n 1, 1, []), (72, .iload 4, 2, []), (74, .iload_n 2, 1, []), (75, .iload_n 3, 1, []), (76, .invokevirtual 179, 3, [189]), (79, .iastore, 1, []), (80, .aload_n 0, 1, []), (81, .getfield 34, 3, [1220]), (84, .iload 4, 2, []), (86, .aload_n 0, 1, []), (87, .getfield 119, 3, [1209]), (90, .bastore, 1, []), (91, .aload_n 0, 1, []), (92, .getfield 22, 3, [1216]), (95, .iload 4, 2, []), (97, .iload_n 1, 1, []), (98, .iastore, 1, []), (99, .aload_n 0, 1, []), (100, .getfield 25, 3, [1217]), (103, .iload 4, 2, []), (105, .iload_n 2, 1, []), (106, .iastore, 1, []), (107, .aload_n 0, 1, []), (108, .getfield 28, 3, [1218]), (111, .iload 4, 2, []), (113, .iload 5, 2, []), (115, .iastore, 1, []), (116, .aload_n 0, 1, []), (117, .dup, 1, []), (118, .getfield 172, 3, [1215]), (121, .iconst 1, 1, []), (122, .iadd, 1, []), (123, .putfield 172, 3, [1215]), (126, .iload 5, 2, []), (128, .ireturn, 1, [])]
def p_Mo_makes : zz_P := (200, ⟨"TurnQueuesModel", "makes", "(III)I"⟩, prog_14_method_23_code, 6, (some .int), q_Mo_makes)
set_option maxRecDepth 100000 in
theorem k_Mo_makes : zz_okP p_Mo_makes := ⟨by decide +kernel, zz_mem_r [1373, 1379, 1361, 1619, 1381, 1619, 1623, 1377, 1627, 1378, 1367, 1374, 1375, 1376, 1373, 1373] rfl (by decide +kernel)⟩
set_option maxRecDepth 100000 in
theorem o_Mo_makes : zz_okC p_Mo_makes false 12 4 := zz_okV (zz_mem_r (ws := [Cond.code p_Mo_makes.y p_Mo_makes.bytes p_Mo_makes.maxL p_Mo_makes.ret, Cond.initialized p_Mo_makes.y.cls, Cond.instanceMethod p_Mo_makes.y, Cond.selects p_Mo_makes.y.cls p_Mo_makes.y p_Mo_makes.y]) [1618, 109, 1617, 46] rfl (by decide +kernel)) rfl rfl (by decide +kernel) (by decide +kernel) rfl (by decide +kernel) rfl
def q_Mo_beginsHouse : List zz_C := [(0, .aload_n 0, 1, []), (1, .iconst 0, 1, []), (2, .putfield 94, 3, [1203]), (5, .aload_n 0, 1, []), (6, .iconst 1, 1, []), (7, .putfield 172, 3, [1215]), (10, .aload_n 0, 1, []), (11, .iconst 0, 1, []), (12, .invokevirtual 183, 3, [185]), (15, .aload_n 0, 1, []), (16, .getfield 44, 3, [1223]), (19, .iconst 0, 1, []), (20, .iconst 0, 1, []), (21, .iastore, 1, []), (22, .aload_n 0, 1, []), (23, .getfield 22, 3, [1216]), (26, .iconst 0, 1, []), (27, .iconst (-1), 1, []), (28, .iastore, 1, []), (29, .aload_n 0, 1, []), (30, .aload_n 0, 1, []), (31, .getfield 186, 3, [1211]), (34, .putfield 128, 3, [1205]), (37, .aload_n 0, 1, []), (38, .aload_n 0, 1, []), (39, .getfield 189, 3, [1212]), (42, .putfield 163, 3, [1206]), (45, .return_, 1, [])]
def p_Mo_beginsHouse : zz_P := (201, ⟨"TurnQueuesModel", "beginsHouse", "()V"⟩, prog_14_method_24_code, 1, none, q_Mo_beginsHouse)
set_option maxRecDepth 100000 in
theorem k_Mo_beginsHouse : zz_okP p_Mo_beginsHouse := ⟨by decide +kernel, zz_mem_r [1361, 1373, 1607, 1381, 1374, 1369, 1363, 1370, 1364] rfl (by decide +kernel)⟩
set_option maxRecDepth 100000 in
theorem o_Mo_beginsHouse : zz_okC p_Mo_beginsHouse false 12 1 := zz_okV (zz_mem_r (ws := [Cond.code p_Mo_beginsHouse.y p_Mo_beginsHouse.bytes p_Mo_beginsHouse.maxL p_Mo_beginsHouse.ret, Cond.initialized p_Mo_beginsHouse.y.cls, Cond.instanceMethod p_Mo_beginsHouse.y, Cond.selects p_Mo_beginsHouse.y.cls p_Mo_beginsHouse.y p_Mo_beginsHouse.y]) [1606, 109, 1605, 43] rfl (by decide +kernel)) rfl rfl (by decide +kernel) (by decide +kernel) rfl (by decide +kernel) rfl
def q_Mo_feed : List zz_C := [(0, .aload_n 0, 1, []), (1, .getfield 192, 3, [1225]), (4, .bipush 20, 2, []), (6, .iadd, 1, []), (7, .sipush 600, 3, []), (10, .if_icmp .le 5, 3, [8]), (13, .iconst (-1), 1, []), (14, .ireturn, 1, []), (15, .aload_n 0, 1, []), (16, .getfield 51, 3, [1226]), (19, .iconst 0, 1, []), (20, .iload_n 1, 1, []), (21, .iastore, 1, []), (22, .aload_n 0, 1, []), (23, .getfield 51, 3, [1226]), (26, .iconst 1, 1, []), (27, .iload_n 2, 1, []), (28, .iastore, 1, []), (29, .aload_n 0, 1, []), (30, .getfield 51, 3, [1226]), (33, .iconst 2, 1, []), (34, .iload_n 3, 1, []), (35, .iastore, 1, []), (36, .aload_n 0, 1, []), (37, .getfield 51, 3, [1226]), (40, .iconst 3, 1, []), (41, .iload 4, 2, []), (43, .iastore, 1, []), (44, .aload_n 0, 1, []), (45, .getfield 51, 3, [1226]), (48, .iconst 4, 1, []), (49, .iload 5, 2, []), (51, .iastore, 1, []), (52, .iconst 0, 1, []), (53, .istore 6, 2, []), (55, .iload 6, 2, []), (57, .bipush 20, 2, []), (59, .if_icmp .ge 42, 3, [62]), (62, .aload_n 0, 1, []), (63, .getfield 47, 3, [1224]), (66, .aload_n 0, 1, []), (67, .getfield 192, 3, [1225]), (70, .iload 6, 2, []), (72, .iadd, 1, []), (73, .aload_n 0, 1, []), (74, .getfield 51, 3, [1226]), (77, .iload 6, 2, []), (79, .iconst 4, 1, []), (80, .idiv, 1, []), (81, .iaload, 1, []), (82, .bipush 24, 2, []), (84, .bipush 8, 2, []), (86, .iload 6, 2, []), (88, .iconst 4, 1, []), (89, .irem, 1, []), (90, .imul, 1, []), (91, .isub, 1, []), (92, .ishr, 1, []), (93, .i2b, 1, []), (94, .bastore, 1, []), (95, .iinc 6 1, 3, []), (98, .goto (-43), 3, [35]), (101, .aload_n 0, 1, []), (102, .dup, 1, []), (103, .getfield 192, 3, [1225]), (106, .bipush 20, 2, []), (108, .iadd, 1, []), (109, .putfield 192, 3, [1225]), (112, .aload_n 0, 1, []), (113, .getfield 192, 3, [1225]), (116, .ireturn, 1, [])]
def p_Mo_feed : zz_P := (202, ⟨"TurnQueuesModel", "feed", "(IIIII)I"⟩, prog_14_method_25_code, 7, (some .int), q_Mo_feed)
set_option maxRecDepth 100000 in
theorem k_Mo_feed : zz_okP p_Mo_feed := ⟨by decide +kernel, zz_mem_r [1383, 1384, 1384, 1384, 1384, 1384, 1382, 1383, 1384, 1383, 1383, 1383] rfl (by decide +kernel)⟩
set_option maxRecDepth 100000 in
theorem o_Mo_feed : zz_okC p_Mo_feed false 12 6 := zz_okV (zz_mem_r (ws := [Cond.code p_Mo_feed.y p_Mo_feed.bytes p_Mo_feed.maxL p_Mo_feed.ret, Cond.initialized p_Mo_feed.y.cls, Cond.instanceMethod p_Mo_feed.y, Cond.selects p_Mo_feed.y.cls p_Mo_feed.y p_Mo_feed.y]) [1536, 109, 1534, 1535] rfl (by decide +kernel)) rfl rfl (by decide +kernel) (by decide +kernel) rfl (by decide +kernel) rfl
def q_Mo_end : List zz_C := [(0, .iload_n 1, 1, []), (1, .i2l, 1, []), (2, .lconst 0, 1, []), (3, .aload_n 0, 1, []), (4, .getfield 192, 3, [1225]), (7, .i2l, 1, []), (8, .invokestatic 195, 3, [180]), (11, .ifCond .ne 5, 3, [10]), (14, .iconst (-1), 1, []), (15, .ireturn, 1, []), (16, .aload_n 0, 1, []), (17, .iload_n 1, 1, []), (18, .putfield 192, 3, [1225]), (21, .iload_n 1, 1, []), (22, .ireturn, 1, [])]
def p_Mo_end : zz_P := (203, ⟨"TurnQueuesModel", "end", "(I)I"⟩, prog_14_method_26_code, 2, (some .int), q_Mo_end)
set_option maxRecDepth 100000 in
theorem k_Mo_end : zz_okP p_Mo_end := ⟨by decide +kernel, zz_mem_r [1383, 1541, 1383] rfl (by decide +kernel)⟩
set_option maxRecDepth 100000 in
theorem o_Mo_end : zz_okC p_Mo_end false 12 2 := zz_okV (zz_mem_r (ws := [Cond.code p_Mo_end.y p_Mo_end.bytes p_Mo_end.maxL p_Mo_end.ret, Cond.initialized p_Mo_end.y.cls, Cond.instanceMethod p_Mo_end.y, Cond.selects p_Mo_end.y.cls p_Mo_end.y p_Mo_end.y]) [1540, 109, 1538, 1539] rfl (by decide +kernel)) rfl rfl (by decide +kernel) (by decide +kernel) rfl (by decide +kernel) rfl
def q_Mo_see : List zz_C := [(0, .iload_n 1, 1, []), (1, .aload_n 0, 1, []), (2, .getfield 199, 3, [1227]), (5, .if_icmp .ge 16, 3, [11]), (8, .aload_n 0, 1, []), (9, .getfield 47, 3, [1224]), (12, .iload_n 1, 1, []), (13, .baload, 1, []), (14, .sipush 255, 3, []), (17, .iand, 1, []), (18, .goto 4, 3, [12]), (21, .iconst (-1), 1, []), (22, .ireturn, 1, [])]
def p_Mo_see : zz_P := (204, ⟨"TurnQueuesModel", "see", "(I)I"⟩, prog_14_method_27_code, 2, (some .int), q_Mo_see)
set_option maxRecDepth 100000 in
theorem k_Mo_see : zz_okP p_Mo_see := ⟨by decide +kernel, zz_mem_r [1385, 1382] rfl (by decide +kernel)⟩
set_option maxRecDepth 100000 in
theorem o_Mo_see : zz_okC p_Mo_see false 12 2 := zz_okV (zz_mem_r (ws := [Cond.code p_Mo_see.y p_Mo_see.bytes p_Mo_see.maxL p_Mo_see.ret, Cond.initialized p_Mo_see.y.cls, Cond.instanceMethod p_Mo_see.y, Cond.selects p_Mo_see.y.cls p_Mo_see.y p_Mo_see.y]) [1559, 109, 1558, 35] rfl (by decide +kernel)) rfl rfl (by decide +kernel) (by decide +kernel) rfl (by decide +kernel) rfl
def q_Mo_advance : List zz_C := [(0, .aload_n 0, 1, []), (1, .aload_n 0, 1, []), (2, .getfield 202, 3, [1228]), (5, .invokevirtual 205, 3, [204]), (8, .bipush 32, 2, []), (10, .if_icmp .eq 16, 3, [12]), (13, .aload_n 0, 1, []), (14, .aload_n 0, 1, []), (15, .getfield 202, 3, [1228]), (18, .invokevirtual 205, 3, [204]), (21, .bipush 10, 2, []), (23, .if_icmp .ne 16, 3, [19]), (26, .aload_n 0, 1, []), (27, .dup, 1, []), (28, .getfield 202, 3, [1228]), (31, .iconst 1, 1, []), (32, .iadd, 1, []), (33, .putfield 202, 3, [1228]), (36, .goto (-36), 3, [0]), (39, .aload_n 0, 1, []), (40, .aload_n 0, 1, []), (41, .getfield 202, 3, [1228]), (44, .putfield 208, 3, [1229]), (47, .aload_n 0, 1, []), (48, .aload_n 0, 1, []), (49, .getfield 202, 3, [1228]), (52, .invokevirtual 205, 3, [204]), (55, .istore_n 1, 1, []), (56, .iload_n 1, 1, []), (57, .iconst (-1), 1, []), (58, .if_icmp .ne 11, 3, [35]), (61, .aload_n 0, 1, []), (62, .iconst 0, 1, []), (63, .putfield 211, 3, [1230]), (66, .goto 173, 3, [119]), (69, .iload_n 1, 1, []), (70, .i2l, 1, []), (71, .ldc2_w 214, 3, [97]), (74, .ldc2_w 216, 3, [122]), (77, .invokestatic 195, 3, [180]), (80, .ifCond .eq 45, 3, [61]), (83, .aload_n 0, 1, []), (84, .aload_n 0, 1, []), (85, .getfield 202, 3, [1228]), (88, .invokevirtual 205, 3, [204]), (91, .i2l, 1, []), (92, .ldc2_w 214, 3, [97]), (95, .ldc2_w 216, 3, [122]), (98, .invokestatic 195, 3, [180]), (101, .ifCond .eq 16, 3, [57]), (104, .aload_n 0, 1, []), (105, .dup, 1, []), (106, .getfield 202, 3, [1228]), (109, .iconst 1, 1, []), (110, .iadd, 1, []), (111, .putfield 202, 3, [1228]), (114, .goto (-31), 3, [41]), (117, .aload_n 0, 1, []), (118, .iconst 1, 1, []), (119, .putfield 211, 3, [1230]), (122, .goto 117, 3, [119]), (125, .iload_n 1, 1, []), (126, .i2l, 1, []), (127, .ldc2_w 218, 3, [48]), (130, .ldc2_w 220, 3, [57]), (133, .invokestatic 195, 3, [180]), (136, .ifCond .eq 78, 3, [105]), (139, .aload_n 0, 1, []), (140, .iconst 0, 1, []), (141, .putfield 222, 3, [1231]), (144, .aload_n 0, 1, []), (145, .aload_n 0, 1, []), (146, .getfield 202, 3, [1228]), (149, .invokevirtual 205, 3, [204]), (152, .i2l, 1, []), (153, .ldc2_w 218, 3, [48]), (156, .ldc2_w 220, 3, [57]), (159, .invokestatic 195, 3, [180]), (162, .ifCond .eq 44, 3, [101]), (165, .aload_n 0, 1, []), (166, .ldc 225, 2, [1, 99999]), (168, .bipush 10, 2, []), (170, .aload_n 0, 1, []), (171, .getfield 222, 3, [1231]), (174, .imul, 1, []), (175, .aload_n 0, 1, []), (176, .aload_n 0, 1, []), (177, .getfield 202, 3, [1228]), (180, .invokevirtual 205, 3, [204]), (183, .iadd, 1, []), (184, .bipush 48, 2, []), (186, .isub, 1, []), (187, .invokestatic 158, 3, [300]), (190, .putfield 222, 3, [1231]), (193, .aload_n 0, 1, []), (194, .dup, 1, []), (195, .getfield 202, 3, [1228]), (198, .iconst 1, 1, []), (199, .iadd, 1, []), (200, .putfield 202, 3, [1228]), (203, .goto (-59), 3, [70]), (206, .aload_n 0, 1, []), (207, .iconst 2, 1, []), (208, .putfield 211, 3, [1230]), (211, .goto 28, 3, [119]), (214, .aload_n 0, 1, []), (215, .iload_n 1, 1, []), (216, .bipush 59, 2, []), (218, .if_icmp .ne 7, 3, [111]), (221, .iconst 3, 1, []), (222, .goto 4, 3, [112]), (225, .iconst 4, 1, []), (226, .putfield 211, 3, [1230]), (229, .aload_n 0, 1, []), (230, .dup, 1, []), (231, .getfield 202, 3, [1228]), (234, .iconst 1, 1, []), (235, .iadd, 1, []), (236, .putfield 202, 3, [1228]), (239, .return_, 1, [])]
def p_Mo_advance : zz_P := (205, ⟨"TurnQueuesModel", "advance", "()V"⟩, prog_14_method_28_code, 2, none, q_Mo_advance)
set_option maxRecDepth 100000 in
theorem k_Mo_advance : zz_okP p_Mo_advance := ⟨by decide +kernel, zz_mem_r [1386, 1556, 1386, 1556, 1386, 1386, 1386, 1387, 1386, 1556, 1388, 1560, 1561, 1541, 1386, 1556, 1560, 1561, 1541, 1386, 1386, 1388, 1562, 1563, 1541, 1389, 1386, 1556, 1562, 1563, 1541, 1564, 1389, 1386, 1556, 1565, 1389, 1386, 1386, 1388, 1388, 1386, 1386] rfl (by decide +kernel)⟩
set_option maxRecDepth 100000 in
theorem o_Mo_advance : zz_okC p_Mo_advance false 12 1 := zz_okV (zz_mem_r (ws := [Cond.code p_Mo_advance.y p_Mo_advance.bytes p_Mo_advance.maxL p_Mo_advance.ret, Cond.initialized p_Mo_advance.y.cls, Cond.instanceMethod p_Mo_advance.y, Cond.selects p_Mo_advance.y.cls p_Mo_advance.y p_Mo_advance.y]) [1555, 109, 1554, 34] rfl (by decide +kernel)) rfl rfl (by decide +kernel) (by decide +kernel) rfl (by decide +kernel) rfl
def q_Mo_good : List zz_C := [(0, .aload_n 0, 1, []), (1, .getfield 226, 3, [1232]), (4, .ifCond .ne 7, 3, [5]), (7, .iconst 1, 1, []), (8, .goto 4, 3, [6]), (11, .iconst 0, 1, []), (12, .ireturn, 1, [])]
def p_Mo_good : zz_P := (206, ⟨"TurnQueuesModel", "good", "()Z"⟩, prog_14_method_29_code, 1, (some .boolean), q_Mo_good)
set_option maxRecDepth 100000 in
theorem k_Mo_good : zz_okP p_Mo_good := ⟨by decide +kernel, zz_mem_r [1390] rfl (by decide +kernel)⟩
set_option maxRecDepth 100000 in
theorem o_Mo_good : zz_okC p_Mo_good false 12 1 := zz_okV (zz_mem_r (ws := [Cond.code p_Mo_good.y p_Mo_good.bytes p_Mo_good.maxL p_Mo_good.ret, Cond.initialized p_Mo_good.y.cls, Cond.instanceMethod p_Mo_good.y, Cond.selects p_Mo_good.y.cls p_Mo_good.y p_Mo_good.y]) [1569, 109, 1568, 36] rfl (by decide +kernel)) rfl rfl (by decide +kernel) (by decide +kernel) rfl (by decide +kernel) rfl
def q_Mo_errs : List zz_C := [(0, .aload_n 0, 1, []), (1, .invokevirtual 229, 3, [206]), (4, .ifCond .ne 4, 3, [4]), (7, .return_, 1, []), (8, .aload_n 0, 1, []), (9, .iload_n 1, 1, []), (10, .putfield 226, 3, [1232]), (13, .aload_n 0, 1, []), (14, .aload_n 0, 1, []), (15, .getfield 208, 3, [1229]), (18, .putfield 54, 3, [1233]), (21, .return_, 1, [])]
def p_Mo_errs : zz_P := (207, ⟨"TurnQueuesModel", "errs", "(I)V"⟩, prog_14_method_30_code, 2, none, q_Mo_errs)
set_option maxRecDepth 100000 in
theorem k_Mo_errs : zz_okP p_Mo_errs := ⟨by decide +kernel, zz_mem_r [1566, 1390, 1387, 1391] rfl (by decide +kernel)⟩
set_option maxRecDepth 100000 in
theorem o_Mo_errs : zz_okC p_Mo_errs false 12 2 := zz_okV (zz_mem_r (ws := [Cond.code p_Mo_errs.y p_Mo_errs.bytes p_Mo_errs.maxL p_Mo_errs.ret, Cond.initialized p_Mo_errs.y.cls, Cond.instanceMethod p_Mo_errs.y, Cond.selects p_Mo_errs.y.cls p_Mo_errs.y p_Mo_errs.y]) [1580, 109, 1579, 38] rfl (by decide +kernel)) rfl rfl (by decide +kernel) (by decide +kernel) rfl (by decide +kernel) rfl
def q_Mo_is : List zz_C := [(0, .aload_n 0, 1, []), (1, .invokevirtual 229, 3, [206]), (4, .ifCond .eq 31, 3, [17]), (7, .aload_n 0, 1, []), (8, .getfield 211, 3, [1230]), (11, .iconst 1, 1, []), (12, .if_icmp .ne 23, 3, [17]), (15, .aload_n 0, 1, []), (16, .getfield 202, 3, [1228]), (19, .aload_n 0, 1, []), (20, .getfield 208, 3, [1229]), (23, .isub, 1, []), (24, .aload_n 1, 1, []), (25, .invokevirtual 233, 3, [297]), (28, .if_icmp .ne 7, 3, [17]), (31, .iconst 1, 1, []), (32, .goto 4, 3, [18]), (35, .iconst 0, 1, []), (36, .istore_n 2, 1, []), (37, .iconst 0, 1, []), (38, .istore_n 3, 1, []), (39, .iload_n 3, 1, []), (40, .aload_n 1, 1, []), (41, .invokevirtual 233, 3, [297]), (44, .if_icmp .ge 38, 3, [44]), (47, .iload_n 2, 1, []), (48, .ifCond .eq 34, 3, [44]), (51, .aload_n 0, 1, []), (52, .getfield 47, 3, [1224]), (55, .aload_n 0, 1, []), (56, .getfield 208, 3, [1229]), (59, .iload_n 3, 1, []), (60, .iadd, 1, []), (61, .baload, 1, []), (62, .aload_n 1, 1, []), (63, .iload_n 3, 1, []), (64, .invokevirtual 239, 3, [298]), (67, .if_icmp .ne 7, 3, [40]), (70, .iconst 1, 1, []), (71, .goto 4, 3, [41]), (74, .iconst 0, 1, []), (75, .istore_n 2, 1, []), (76, .iinc 3 1, 3, []), (79, .goto (-40), 3, [21]), (82, .iload_n 2, 1, []), (83, .ireturn, 1, [])]
def p_Mo_is : zz_P := (208, ⟨"TurnQueuesModel", "is", "(Ljava/lang/String;)Z"⟩, prog_14_method_31_code, 4, (some .boolean), q_Mo_is)
set_option maxRecDepth 100000 in
theorem k_Mo_is : zz_okP p_Mo_is := ⟨by decide +kernel, zz_mem_r [1566, 1388, 1386, 1387, 1575, 1575, 1382, 1387, 1576] rfl (by decide +kernel)⟩
set_option maxRecDepth 100000 in
theorem o_Mo_is : zz_okC p_Mo_is false 12 2 := zz_okV (zz_mem_r (ws := [Cond.code p_Mo_is.y p_Mo_is.bytes p_Mo_is.maxL p_Mo_is.ret, Cond.initialized p_Mo_is.y.cls, Cond.instanceMethod p_Mo_is.y, Cond.selects p_Mo_is.y.cls p_Mo_is.y p_Mo_is.y]) [1574, 109, 1573, 37] rfl (by decide +kernel)) rfl rfl (by decide +kernel) (by decide +kernel) rfl (by decide +kernel) rfl
def q_Mo_takes : List zz_C := [(0, .aload_n 0, 1, []), (1, .invokevirtual 229, 3, [206]), (4, .ifCond .eq 16, 3, [10]), (7, .aload_n 0, 1, []), (8, .getfield 211, 3, [1230]), (11, .iconst 2, 1, []), (12, .if_icmp .eq 8, 3, [10]), (15, .aload_n 0, 1, []), (16, .iconst 1, 1, []), (17, .invokevirtual 243, 3, [207]), (20, .aload_n 0, 1, []), (21, .invokevirtual 229, 3, [206]), (24, .ifCond .eq 23, 3, [25]), (27, .aload_n 0, 1, []), (28, .getfield 222, 3, [1231]), (31, .i2l, 1, []), (32, .iload_n 1, 1, []), (33, .i2l, 1, []), (34, .iload_n 2, 1, []), (35, .i2l, 1, []), (36, .invokestatic 195, 3, [180]), (39, .ifCond .ne 8, 3, [25]), (42, .aload_n 0, 1, []), (43, .iconst 2, 1, []), (44, .invokevirtual 243, 3, [207]), (47, .aload_n 0, 1, []), (48, .invokevirtual 229, 3, [206]), (51, .ifCond .ne 5, 3, [30]), (54, .iconst 0, 1, []), (55, .ireturn, 1, []), (56, .aload_n 0, 1, []), (57, .getfield 222, 3, [1231]), (60, .istore_n 3, 1, []), (61, .aload_n 0, 1, []), (62, .invokevirtual 246, 3, [205]), (65, .iload_n 3, 1, []), (66, .ireturn, 1, [])]
def p_Mo_takes : zz_P := (209, ⟨"TurnQueuesModel", "takes", "(II)I"⟩, prog_14_method_32_code, 4, (some .int), q_Mo_takes)
set_option maxRecDepth 100000 in
theorem k_Mo_takes : zz_okP p_Mo_takes := ⟨by decide +kernel, zz_mem_r [1566, 1388, 1577, 1566, 1389, 1541, 1577, 1566, 1389, 1552] rfl (by decide +kernel)⟩
set_option maxRecDepth 100000 in
theorem o_Mo_takes : zz_okC p_Mo_takes false 12 3 := zz_okV (zz_mem_r (ws := [Cond.code p_Mo_takes.y p_Mo_takes.bytes p_Mo_takes.maxL p_Mo_takes.ret, Cond.initialized p_Mo_takes.y.cls, Cond.instanceMethod p_Mo_takes.y, Cond.selects p_Mo_takes.y.cls p_Mo_takes.y p_Mo_takes.y]) [1589, 109, 1588, 40] rfl (by decide +kernel)) rfl rfl (by decide +kernel) (by decide +kernel) rfl (by decide +kernel) rfl
def q_Mo_told : List zz_C := [(0, .aload_n 0, 1, []), (1, .aload_n 1, 1, []), (2, .invokevirtual 249, 3, [208]), (5, .ifCond .eq 10, 3, [7]), (8, .aload_n 0, 1, []), (9, .invokevirtual 246, 3, [205]), (12, .goto 8, 3, [10]), (15, .aload_n 0, 1, []), (16, .iconst 1, 1, []), (17, .invokevirtual 243, 3, [207]), (20, .aload_n 0, 1, []), (21, .iload_n 2, 1, []), (22, .iload_n 3, 1, []), (23, .invokevirtual 253, 3, [209]), (26, .ireturn, 1, [])]
def p_Mo_told : zz_P := (210, ⟨"TurnQueuesModel", "told", "(Ljava/lang/String;II)I"⟩, prog_14_method_33_code, 4, (some .int), q_Mo_told)
set_option maxRecDepth 100000 in
theorem k_Mo_told : zz_okP p_Mo_told := ⟨by decide +kernel, zz_mem_r [1571, 1552, 1577, 1586] rfl (by decide +kernel)⟩
set_option maxRecDepth 100000 in
theorem o_Mo_told : zz_okC p_Mo_told false 12 4 := zz_okV (zz_mem_r (ws := [Cond.code p_Mo_told.y p_Mo_told.bytes p_Mo_told.maxL p_Mo_told.ret, Cond.initialized p_Mo_told.y.cls, Cond.instanceMethod p_Mo_told.y, Cond.selects p_Mo_told.y.cls p_Mo_told.y p_Mo_told.y]) [1585, 109, 1584, 39] rfl (by decide +kernel)) rfl rfl (by decide +kernel) (by decide +kernel) rfl (by decide +kernel) rfl
def q_Mo_fault : List zz_C := [(0, .iload_n 1, 1, []), (1, .ifCond .ne 10, 3, [5]), (4, .aload_n 0, 1, []), (5, .getfield 226, 3, [1232]), (8, .goto 16, 3, [12]), (11, .iload_n 1, 1, []), (12, .iconst 1, 1, []), (13, .if_icmp .ne 10, 3, [11]), (16, .aload_n 0, 1, []), (17, .getfield 54, 3, [1233]), (20, .goto 4, 3, [12]), (23, .iconst (-1), 1, []), (24, .ireturn, 1, [])]
def p_Mo_fault : zz_P := (211, ⟨"TurnQueuesModel", "fault", "(I)I"⟩, prog_14_method_34_code, 2, (some .int), q_Mo_fault)
set_option maxRecDepth 100000 in
theorem k_Mo_fault : zz_okP p_Mo_fault := ⟨by decide +kernel, zz_mem_r [1390, 1391] rfl (by decide +kernel)⟩
set_option maxRecDepth 100000 in
theorem o_Mo_fault : zz_okC p_Mo_fault false 12 2 := zz_okV (zz_mem_r (ws := [Cond.code p_Mo_fault.y p_Mo_fault.bytes p_Mo_fault.maxL p_Mo_fault.ret, Cond.initialized p_Mo_fault.y.cls, Cond.instanceMethod p_Mo_fault.y, Cond.selects p_Mo_fault.y.cls p_Mo_fault.y p_Mo_fault.y]) [1547, 109, 1545, 1546] rfl (by decide +kernel)) rfl rfl (by decide +kernel) (by decide +kernel) rfl (by decide +kernel) rfl
def q_Mo_kindHere : List zz_C := [(0, .aload_n 0, 1, []), (1, .ldc_w 256, 3, [0, 21]), (4, .invokevirtual 249, 3, [208]), (7, .ifCond .eq 5, 3, [6]), (10, .iconst 0, 1, []), (11, .ireturn, 1, []), (12, .aload_n 0, 1, []), (13, .ldc_w 258, 3, [0, 22]), (16, .invokevirtual 249, 3, [208]), (19, .ifCond .eq 5, 3, [12]), (22, .iconst 1, 1, []), (23, .ireturn, 1, []), (24, .aload_n 0, 1, []), (25, .getfield 260, 3, [1234]), (28, .iconst 2, 1, []), (29, .if_icmp .ne 15, 3, [22]), (32, .aload_n 0, 1, []), (33, .ldc_w 263, 3, [0, 23]), (36, .invokevirtual 249, 3, [208]), (39, .ifCond .eq 5, 3, [22]), (42, .iconst 2, 1, []), (43, .ireturn, 1, []), (44, .aload_n 0, 1, []), (45, .getfield 260, 3, [1234]), (48, .iconst 2, 1, []), (49, .if_icmp .ne 17, 3, [32]), (52, .aload_n 0, 1, []), (53, .ldc_w 265, 3, [0, 24]), (56, .invokevirtual 249, 3, [208]), (59, .ifCond .eq 7, 3, [32]), (62, .iconst 3, 1, []), (63, .goto 4, 3, [33]), (66, .iconst (-1), 1, []), (67, .ireturn, 1, [])]
def p_Mo_kindHere : zz_P := (212, ⟨"TurnQueuesModel", "kindHere", "()I"⟩, prog_14_method_35_code, 1, (some .int), q_Mo_kindHere)
set_option maxRecDepth 100000 in
theorem k_Mo_kindHere : zz_okP p_Mo_kindHere := ⟨by decide +kernel, zz_mem_r [1571, 1571, 1392, 1571, 1392, 1571] rfl (by decide +kernel)⟩
set_option maxRecDepth 100000 in
theorem o_Mo_kindHere : zz_okC p_Mo_kindHere false 12 1 := zz_okV (zz_mem_r (ws := [Cond.code p_Mo_kindHere.y p_Mo_kindHere.bytes p_Mo_kindHere.maxL p_Mo_kindHere.ret, Cond.initialized p_Mo_kindHere.y.cls, Cond.instanceMethod p_Mo_kindHere.y, Cond.selects p_Mo_kindHere.y.cls p_Mo_kindHere.y p_Mo_kindHere.y]) [1598, 109, 1597, 42] rfl (by decide +kernel)) rfl rfl (by decide +kernel) (by decide +kernel) rfl (by decide +kernel) rfl
def q_Mo_readDeed : List zz_C := [(0, .aload_n 0, 1, []), (1, .invokevirtual 267, 3, [212]), (4, .istore_n 1, 1, []), (5, .iload_n 1, 1, []), (6, .iconst (-1), 1, []), (7, .if_icmp .ne 8, 3, [9]), (10, .aload_n 0, 1, []), (11, .iconst 1, 1, []), (12, .invokevirtual 243, 3, [207]), (15, .aload_n 0, 1, []), (16, .invokevirtual 229, 3, [206]), (19, .ifCond .eq 17, 3, [19]), (22, .aload_n 0, 1, []), (23, .getfield 270, 3, [1236]), (26, .bipush 40, 2, []), (28, .if_icmp .ne 8, 3, [19]), (31, .aload_n 0, 1, []), (32, .iconst 3, 1, []), (33, .invokevirtual 243, 3, [207]), (36, .aload_n 0, 1, []), (37, .invokevirtual 229, 3, [206]), (40, .ifCond .ne 4, 3, [23]), (43, .return_, 1, []), (44, .aload_n 0, 1, []), (45, .invokevirtual 246, 3, [205]), (48, .iload_n 1, 1, []), (49, .iconst 1, 1, []), (50, .if_icmp .eq 8, 3, [31]), (53, .iload_n 1, 1, []), (54, .iconst 3, 1, []), (55, .if_icmp .ne 7, 3, [33]), (58, .iconst 1, 1, []), (59, .goto 4, 3, [34]), (62, .iconst 0, 1, []), (63, .istore_n 2, 1, []), (64, .aload_n 0, 1, []), (65, .getfield 211, 3, [1230]), (68, .iconst 2, 1, []), (69, .if_icmp .ne 35, 3, [55]), (72, .aload_n 0, 1, []), (73, .getfield 222, 3, [1231]), (76, .aload_n 0, 1, []), (77, .getfield 270, 3, [1236]), (80, .if_icmp .gt 24, 3, [55]), (83, .iload_n 2, 1, []), (84, .ifCond .eq 20, 3, [55]), (87, .aload_n 0, 1, []), (88, .getfield 67, 3, [1240]), (91, .aload_n 0, 1, []), (92, .getfield 222, 3, [1231]), (95, .iaload, 1, []), (96, .ifCond .ne 8, 3, [55]), (99, .aload_n 0, 1, []), (100, .iconst 2, 1, []), (101, .invokevirtual 243, 3, [207]), (104, .aload_n 0, 1, []), (105, .iconst 0, 1, []), (106, .aload_n 0, 1, []), (107, .getfield 270, 3, [1236]), (110, .invokevirtual 253, 3, [209]), (113, .istore_n 3, 1, []), (114, .iload_n 2, 1, []), (115, .ifCond .eq 7, 3, [65]), (118, .iconst 0, 1, []), (119, .goto 10, 3, [69]), (122, .aload_n 0, 1, []), (123, .iconst 0, 1, []), (124, .bipush 99, 2, []), (126, .invokevirtual 253, 3, [209]), (129, .istore 4, 2, []), (131, .aload_n 0, 1, []), (132, .invokevirtual 229, 3, [206]), (135, .ifCond .ne 4, 3, [74]), (138, .return_, 1, []), (139, .aload_n 0, 1, []), (140, .getfield 58, 3, [1237]), (143, .aload_n 0, 1, []), (144, .getfield 270, 3, [1236]), (147, .iload_n 3, 1, []), (148, .iastore, 1, []), (149, .aload_n 0, 1, []), (150, .getfield 61, 3, [1238]), (153, .aload_n 0, 1, []), (154, .getfield 270, 3, [1236]), (157, .iload_n 1, 1, []), (158, .iastore, 1, []), (159, .aload_n 0, 1, []), (160, .getfield 64, 3, [1239]), (163, .aload_n 0, 1, []), (164, .getfield 270, 3, [1236]), (167, .iload 4, 2, []), (169, .iastore, 1, []), (170, .aload_n 0, 1, []), (171, .getfield 67, 3, [1240]), (174, .aload_n 0, 1, []), (175, .getfield 270, 3, [1236]), (178, .iconst 1, 1, []), (179, .iadd, 1, []), (180, .aload_n 0, 1, []), (181, .getfield 67, 3, [1240]), (184, .iload_n 3, 1, []), (185, .iaload, 1, []), (186, .iload_n 2, 1, []), (187, .ifCond .eq 7, 3, [106]), (190, .iconst (-1), 1, []), (191, .goto 4, 3, [107]), (194, .iconst 1, 1, []), (195, .iadd, 1, []), (196, .iastore, 1, []), (197, .aload_n 0, 1, []), (198, .dup, 1, []), (199, .getfield 270, 3, [1236]), (202, .iconst 1, 1, []), (203, .iadd, 1, []), (204, .putfield 270, 3, [1236]), (207, .return_, 1, [])]
def p_Mo_readDeed : zz_P := (213, ⟨"TurnQueuesModel", "readDeed", "()V"⟩, prog_14_method_36_code, 5, none, q_Mo_readDeed)
set_option maxRecDepth 100000 in
theorem k_Mo_readDeed : zz_okP p_Mo_readDeed := ⟨by decide +kernel, zz_mem_r [1595, 1577, 1566, 1394, 1577, 1566, 1552, 1388, 1389, 1394, 1398, 1389, 1577, 1394, 1586, 1586, 1566, 1395, 1394, 1396, 1394, 1397, 1394, 1398, 1394, 1398, 1394, 1394] rfl (by decide +kernel)⟩
set_option maxRecDepth 100000 in
theorem o_Mo_readDeed : zz_okC p_Mo_readDeed false 12 1 := zz_okV (zz_mem_r (ws := [Cond.code p_Mo_readDeed.y p_Mo_readDeed.bytes p_Mo_readDeed.maxL p_Mo_readDeed.ret, Cond.initialized p_Mo_readDeed.y.cls, Cond.instanceMethod p_Mo_readDeed.y, Cond.selects p_Mo_readDeed.y.cls p_Mo_readDeed.y p_Mo_readDeed.y]) [1594, 109, 1593, 41] rfl (by decide +kernel)) rfl rfl (by decide +kernel) (by decide +kernel) rfl (by decide +kernel) rfl
def q_Mo_house : List zz_C := [(0, .aload_n 0, 1, []), (1, .aload_n 0, 1, []), (2, .getfield 192, 3, [1225]), (5, .putfield 199, 3, [1227]), (8, .aload_n 0, 1, []), (9, .iconst 0, 1, []), (10, .putfield 192, 3, [1225]), (13, .aload_n 0, 1, []), (14, .iconst 0, 1, []), (15, .putfield 202, 3, [1228]), (18, .aload_n 0, 1, []), (19, .iconst 0, 1, []), (20, .putfield 226, 3, [1232]), (23, .aload_n 0, 1, []), (24, .iconst (-1), 1, []), (25, .putfield 54, 3, [1233]), (28, .aload_n 0, 1, []), (29, .iconst 0, 1, []), (30, .putfield 270, 3, [1236]), (33, .aload_n 0, 1, []), (34, .getfield 67, 3, [1240]), (37, .iconst 0, 1, []), (38, .iconst 0, 1, []), (39, .iastore, 1, []), (40, .iconst 0, 1, []), (41, .istore_n 1, 1, []), (42, .aload_n 0, 1, []), (43, .invokevirtual 246, 3, [205]), (46, .aload_n 0, 1, []), (47, .invokevirtual 229, 3, [206]), (50, .ifCond .eq 106, 3, [80]), (53, .aload_n 0, 1, []), (54, .getfield 211, 3, [1230]), (57, .ifCond .eq 99, 3, [80]), (60, .iload_n 1, 1, []), (61, .ifCond .ne 54, 3, [61]), (64, .aload_n 0, 1, []), (65, .ldc_w 273, 3, [0, 18]), (68, .invokevirtual 249, 3, [208]), (71, .ifCond .eq 10, 3, [43]), (74, .aload_n 0, 1, []), (75, .invokevirtual 246, 3, [205]), (78, .goto 8, 3, [46]), (81, .aload_n 0, 1, []), (82, .iconst 1, 1, []), (83, .invokevirtual 243, 3, [207]), (86, .aload_n 0, 1, []), (87, .aload_n 0, 1, []), (88, .ldc_w 275, 3, [0, 19]), (91, .iconst 0, 1, []), (92, .iconst 2, 1, []), (93, .invokevirtual 276, 3, [210]), (96, .putfield 260, 3, [1234]), (99, .aload_n 0, 1, []), (100, .aload_n 0, 1, []), (101, .ldc_w 280, 3, [0, 20]), (104, .iconst 2, 1, []), (105, .iconst 4, 1, []), (106, .invokevirtual 276, 3, [210]), (109, .putfield 281, 3, [1235]), (112, .goto 7, 3, [63]), (115, .aload_n 0, 1, []), (116, .invokevirtual 284, 3, [213]), (119, .aload_n 0, 1, []), (120, .invokevirtual 229, 3, [206]), (123, .ifCond .eq 16, 3, [73]), (126, .aload_n 0, 1, []), (127, .getfield 211, 3, [1230]), (130, .iconst 3, 1, []), (131, .if_icmp .eq 8, 3, [73]), (134, .aload_n 0, 1, []), (135, .iconst 1, 1, []), (136, .invokevirtual 243, 3, [207]), (139, .aload_n 0, 1, []), (140, .invokevirtual 229, 3, [206]), (143, .ifCond .eq 7, 3, [78]), (146, .aload_n 0, 1, []), (147, .invokevirtual 246, 3, [205]), (150, .iinc 1 1, 3, []), (153, .goto (-107), 3, [28]), (156, .aload_n 0, 1, []), (157, .invokevirtual 229, 3, [206]), (160, .ifCond .ne 6, 3, [85]), (163, .bipush (-4), 2, []), (165, .ireturn, 1, []), (166, .aload_n 0, 1, []), (167, .iload_n 1, 1, []), (168, .putfield 287, 3, [1213]), (171, .aload_n 0, 1, []), (172, .aload_n 0, 1, []), (173, .getfield 260, 3, [1234]), (176, .putfield 186, 3, [1211]), (179, .aload_n 0, 1, []), (180, .aload_n 0, 1, []), (181, .getfield 281, 3, [1235]), (184, .putfield 189, 3, [1212]), (187, .aload_n 0, 1, []), (188, .aload_n 0, 1, []), (189, .getfield 270, 3, [1236]), (192, .putfield 290, 3, [1214]), (195, .aload_n 0, 1, []), (196, .invokevirtual 293, 3, [201]), (199, .iconst 0, 1, []), (200, .istore_n 2, 1, []), (201, .iload_n 2, 1, []), (202, .aload_n 0, 1, []), (203, .getfield 270, 3, [1236]), (206, .if_icmp .ge 32, 3, [125]), (209, .aload_n 0, 1, []), (210, .aload_n 0, 1, []), (211, .getfield 58, 3, [1237]), (214, .iload_n 2, 1, []), (215, .iaload, 1, []), (216, .aload_n 0, 1, []), (217, .getfield 61, 3, [1238]), (220, .iload_n 2, 1, []), (221, .iaload, 1, []), (222, .aload_n 0, 1, []), (223, .getfield 64, 3, [1239]), (226, .iload_n 2, 1, []), (227, .iaload, 1, []), (228, .invokevirtual 296, 3, [200]), (231, .pop, 1, []), (232, .iinc 2 1, 3, []), (235, .goto (-34), 3, [104]), (238, .aload_n 0, 1, []), (239, .getfield 287, 3, [1213]), (242, .ireturn, 1, [])]
def p_Mo_house : zz_P := (214, ⟨"TurnQueuesModel", "house", "()I"⟩, prog_14_method_37_code, 3, (some .int), q_Mo_house)
set_option maxRecDepth 100000 in
theorem k_Mo_house : zz_okP p_Mo_house := ⟨by decide +kernel, zz_mem_r [1383, 1385, 1383, 1386, 1390, 1391, 1394, 1398, 1552, 1566, 1388, 1571, 1552, 1577, 1582, 1392, 1582, 1393, 1591, 1566, 1388, 1577, 1566, 1552, 1566, 1371, 1392, 1369, 1393, 1370, 1394, 1372, 1603, 1394, 1395, 1396, 1397, 1615, 1371] rfl (by decide +kernel)⟩
set_option maxRecDepth 100000 in
theorem o_Mo_house : zz_okC p_Mo_house false 12 1 := zz_okV (zz_mem_r (ws := [Cond.code p_Mo_house.y p_Mo_house.bytes p_Mo_house.maxL p_Mo_house.ret, Cond.initialized p_Mo_house.y.cls, Cond.instanceMethod p_Mo_house.y, Cond.selects p_Mo_house.y.cls p_Mo_house.y p_Mo_house.y]) [1551, 109, 1549, 1550] rfl (by decide +kernel)) rfl rfl (by decide +kernel) (by decide +kernel) rfl (by decide +kernel) rfl
def q_Mo_isHouse : List zz_C := [(0, .aload_n 0, 1, []), (1, .getfield 287, 3, [1213]), (4, .ifCond .le 7, 3, [5]), (7, .iconst 1, 1, []), (8, .goto 4, 3, [6]), (11, .iconst 0, 1, []), (12, .ireturn, 1, [])]
def p_Mo_isHouse : zz_P := (215, ⟨"TurnQueuesModel", "isHouse", "()Z"⟩, prog_14_method_38_code, 1, (some .boolean), q_Mo_isHouse)
set_option maxRecDepth 100000 in
theorem k_Mo_isHouse : zz_okP p_Mo_isHouse := ⟨by decide +kernel, zz_mem_r [1371] rfl (by decide +kernel)⟩
set_option maxRecDepth 100000 in
theorem o_Mo_isHouse : zz_okC p_Mo_isHouse false 12 1 := zz_okV (zz_mem_r (ws := [Cond.code p_Mo_isHouse.y p_Mo_isHouse.bytes p_Mo_isHouse.maxL p_Mo_isHouse.ret, Cond.initialized p_Mo_isHouse.y.cls, Cond.instanceMethod p_Mo_isHouse.y, Cond.selects p_Mo_isHouse.y.cls p_Mo_isHouse.y p_Mo_isHouse.y]) [1695, 109, 1694, 64] rfl (by decide +kernel)) rfl rfl (by decide +kernel) (by decide +kernel) rfl (by decide +kernel) rfl
def q_Mo_isVersion : List zz_C := [(0, .aload_n 0, 1, []), (1, .invokevirtual 300, 3, [215]), (4, .ifCond .eq 23, 3, [15]), (7, .iload_n 1, 1, []), (8, .i2l, 1, []), (9, .lconst 0, 1, []), (10, .aload_n 0, 1, []), (11, .getfield 172, 3, [1215]), (14, .iconst 1, 1, []), (15, .isub, 1, []), (16, .i2l, 1, []), (17, .invokestatic 195, 3, [180]), (20, .ifCond .eq 7, 3, [15]), (23, .iconst 1, 1, []), (24, .goto 4, 3, [16]), (27, .iconst 0, 1, []), (28, .ireturn, 1, [])]
def p_Mo_isVersion : zz_P := (216, ⟨"TurnQueuesModel", "isVersion", "(I)Z"⟩, prog_14_method_39_code, 2, (some .boolean), q_Mo_isVersion)
set_option maxRecDepth 100000 in
theorem k_Mo_isVersion : zz_okP p_Mo_isVersion := ⟨by decide +kernel, zz_mem_r [1692, 1373, 1541] rfl (by decide +kernel)⟩
set_option maxRecDepth 100000 in
theorem o_Mo_isVersion : zz_okC p_Mo_isVersion false 12 2 := zz_okV (zz_mem_r (ws := [Cond.code p_Mo_isVersion.y p_Mo_isVersion.bytes p_Mo_isVersion.maxL p_Mo_isVersion.ret, Cond.initialized p_Mo_isVersion.y.cls, Cond.instanceMethod p_Mo_isVersion.y, Cond.selects p_Mo_isVersion.y.cls p_Mo_isVersion.y p_Mo_isVersion.y]) [1707, 109, 1706, 66] rfl (by decide +kernel)) rfl rfl (by decide +kernel) (by decide +kernel) rfl (by decide +kernel) rfl
def q_Mo_deedMany : List zz_C := [(0, .aload_n 0, 1, []), (1, .getfield 172, 3, [1215]), (4, .iconst 1, 1, []), (5, .isub, 1, []), (6, .ireturn, 1, [])]
def p_Mo_deedMany : zz_P := (217, ⟨"TurnQueuesModel", "deedMany", "()I"⟩, prog_14_method_40_code, 1, (some .int), q_Mo_deedMany)
set_option maxRecDepth 100000 in
theorem k_Mo_deedMany : zz_okP p_Mo_deedMany := ⟨by decide +kernel, zz_mem_r [1373] rfl (by decide +kernel)⟩
set_option maxRecDepth 100000 in
theorem o_Mo_deedMany : zz_okC p_Mo_deedMany false 12 1 := zz_okV (zz_mem_r (ws := [Cond.code p_Mo_deedMany.y p_Mo_deedMany.bytes p_Mo_deedMany.maxL p_Mo_deedMany.ret, Cond.initialized p_Mo_deedMany.y.cls, Cond.instanceMethod p_Mo_deedMany.y, Cond.selects p_Mo_deedMany.y.cls p_Mo_deedMany.y p_Mo_deedMany.y]) [1699, 109, 1698, 65] rfl (by decide +kernel)) rfl rfl (by decide +kernel) (by decide +kernel) rfl (by decide +kernel) rfl
def q_Mo_count : List zz_C := [(0, .iload_n 1, 1, []), (1, .bipush 6, 2, []), (3, .if_icmp .ne 8, 3, [6]), (6, .aload_n 0, 1, []), (7, .getfield 192, 3, [1225]), (10, .ireturn, 1, []), (11, .iload_n 1, 1, []), (12, .bipush 7, 2, []), (14, .if_icmp .ne 8, 3, [12]), (17, .aload_n 0, 1, []), (18, .getfield 303, 3, [1256]), (21, .ireturn, 1, []), (22, .iload_n 1, 1, []), (23, .i2l, 1, []), (24, .lconst 0, 1, []), (25, .ldc2_w 306, 3, [5]), (28, .invokestatic 195, 3, [180]), (31, .ifCond .ne 5, 3, [20]), (34, .iconst (-1), 1, []), (35, .ireturn, 1, []), (36, .aload_n 0, 1, []), (37, .invokevirtual 300, 3, [215]), (40, .ifCond .ne 5, 3, [25]), (43, .iconst 0, 1, []), (44, .ireturn, 1, []), (45, .iload_n 1, 1, []), (46, .tableswitch 64 0 4 #[34, 39, 44, 49, 54], 34, [45, 27, 30, 33, 36, 39]), (80, .aload_n 0, 1, []), (81, .getfield 186, 3, [1211]), (84, .ireturn, 1, []), (85, .aload_n 0, 1, []), (86, .getfield 189, 3, [1212]), (89, .ireturn, 1, []), (90, .aload_n 0, 1, []), (91, .getfield 172, 3, [1215]), (94, .ireturn, 1, []), (95, .aload_n 0, 1, []), (96, .invokevirtual 308, 3, [217]), (99, .ireturn, 1, []), (100, .aload_n 0, 1, []), (101, .invokevirtual 308, 3, [217]), (104, .aload_n 0, 1, []), (105, .getfield 290, 3, [1214]), (108, .isub, 1, []), (109, .ireturn, 1, []), (110, .aload_n 0, 1, []), (111, .getfield 287, 3, [1213]), (114, .ireturn, 1, [])]
def p_Mo_count : zz_P := (218, ⟨"TurnQueuesModel", "count", "(I)I"⟩, prog_14_method_41_code, 2, (some .int), q_Mo_count)
set_option maxRecDepth 100000 in
theorem k_Mo_count : zz_okP p_Mo_count := ⟨by decide +kernel, zz_mem_r [1383, 1414, 1691, 1541, 1692, 1369, 1370, 1373, 1696, 1696, 1372, 1371] rfl (by decide +kernel)⟩
set_option maxRecDepth 100000 in
theorem o_Mo_count : zz_okC p_Mo_count false 12 2 := zz_okV (zz_mem_r (ws := [Cond.code p_Mo_count.y p_Mo_count.bytes p_Mo_count.maxL p_Mo_count.ret, Cond.initialized p_Mo_count.y.cls, Cond.instanceMethod p_Mo_count.y, Cond.selects p_Mo_count.y.cls p_Mo_count.y p_Mo_count.y]) [1690, 109, 1688, 1689] rfl (by decide +kernel)) rfl rfl (by decide +kernel) (by decide +kernel) rfl (by decide +kernel) rfl
def q_Mo_version : List zz_C := [(0, .aload_n 0, 1, []), (1, .iload_n 1, 1, []), (2, .invokevirtual 311, 3, [216]), (5, .ifCond .eq 15, 3, [10]), (8, .iload_n 2, 1, []), (9, .i2l, 1, []), (10, .lconst 0, 1, []), (11, .ldc2_w 315, 3, [2]), (14, .invokestatic 195, 3, [180]), (17, .ifCond .ne 6, 3, [12]), (20, .bipush (-2), 2, []), (22, .ireturn, 1, []), (23, .iload_n 1, 1, []), (24, .ifCond .ne 5, 3, [16]), (27, .iconst (-1), 1, []), (28, .ireturn, 1, []), (29, .iload_n 2, 1, []), (30, .ifCond .ne 12, 3, [23]), (33, .aload_n 0, 1, []), (34, .getfield 22, 3, [1216]), (37, .iload_n 1, 1, []), (38, .iaload, 1, []), (39, .goto 23, 3, [35]), (42, .iload_n 2, 1, []), (43, .iconst 1, 1, []), (44, .if_icmp .ne 12, 3, [31]), (47, .aload_n 0, 1, []), (48, .getfield 25, 3, [1217]), (51, .iload_n 1, 1, []), (52, .iaload, 1, []), (53, .goto 9, 3, [35]), (56, .aload_n 0, 1, []), (57, .getfield 28, 3, [1218]), (60, .iload_n 1, 1, []), (61, .iaload, 1, []), (62, .ireturn, 1, [])]
def p_Mo_version : zz_P := (219, ⟨"TurnQueuesModel", "version", "(II)I"⟩, prog_14_method_42_code, 3, (some .int), q_Mo_version)
set_option maxRecDepth 100000 in
theorem k_Mo_version : zz_okP p_Mo_version := ⟨by decide +kernel, zz_mem_r [1704, 1708, 1541, 1374, 1375, 1376] rfl (by decide +kernel)⟩
set_option maxRecDepth 100000 in
theorem o_Mo_version : zz_okC p_Mo_version false 12 3 := zz_okV (zz_mem_r (ws := [Cond.code p_Mo_version.y p_Mo_version.bytes p_Mo_version.maxL p_Mo_version.ret, Cond.initialized p_Mo_version.y.cls, Cond.instanceMethod p_Mo_version.y, Cond.selects p_Mo_version.y.cls p_Mo_version.y p_Mo_version.y]) [1703, 109, 1701, 1702] rfl (by decide +kernel)) rfl rfl (by decide +kernel) (by decide +kernel) rfl (by decide +kernel) rfl
end
section
/-! the code of the methods, printed by program -/
def q_Mo_size : List zz_C := [(0, .aload_n 0, 1, []), (1, .iload_n 1, 1, []), (2, .invokevirtual 311, 3, [216]), (5, .ifCond .eq 12, 3, [9]), (8, .aload_n 0, 1, []), (9, .getfield 44, 3, [1223]), (12, .iload_n 1, 1, []), (13, .iaload, 1, []), (14, .goto 5, 3, [10]), (17, .bipush (-2), 2, []), (19, .ireturn, 1, [])]
def p_Mo_size : zz_P := (220, ⟨"TurnQueuesModel", "size", "(I)I"⟩, prog_14_method_43_code, 2, (some .int), q_Mo_size)
set_option maxRecDepth 100000 in
theorem k_Mo_size : zz_okP p_Mo_size := ⟨by decide +kernel, zz_mem_r [1704, 1381] rfl (by decide +kernel)⟩
set_option maxRecDepth 100000 in
theorem o_Mo_size : zz_okC p_Mo_size false 12 2 := zz_okV (zz_mem_r (ws := [Cond.code p_Mo_size.y p_Mo_size.bytes p_Mo_size.maxL p_Mo_size.ret, Cond.initialized p_Mo_size.y.cls, Cond.instanceMethod p_Mo_size.y, Cond.selects p_Mo_size.y.cls p_Mo_size.y p_Mo_size.y]) [1712, 109, 1710, 1711] rfl (by decide +kernel)) rfl rfl (by decide +kernel) (by decide +kernel) rfl (by decide +kernel) rfl
def q_Mo_at : List zz_C := [(0, .aload_n 0, 1, []), (1, .iload_n 1, 1, []), (2, .invokevirtual 311, 3, [216]), (5, .ifCond .eq 7, 3, [6]), (8, .iload_n 2, 1, []), (9, .ifCond .ge 6, 3, [8]), (12, .bipush (-2), 2, []), (14, .ireturn, 1, []), (15, .iload_n 2, 1, []), (16, .aload_n 0, 1, []), (17, .getfield 44, 3, [1223]), (20, .iload_n 1, 1, []), (21, .iaload, 1, []), (22, .if_icmp .ge 12, 3, [19]), (25, .aload_n 0, 1, []), (26, .iload_n 1, 1, []), (27, .iload_n 2, 1, []), (28, .invokevirtual 169, 3, [198]), (31, .goto 4, 3, [20]), (34, .iconst (-1), 1, []), (35, .ireturn, 1, [])]
def p_Mo_at : zz_P := (221, ⟨"TurnQueuesModel", "at", "(II)I"⟩, prog_14_method_44_code, 3, (some .int), q_Mo_at)
set_option maxRecDepth 100000 in
theorem k_Mo_at : zz_okP p_Mo_at := ⟨by decide +kernel, zz_mem_r [1704, 1381, 1619] rfl (by decide +kernel)⟩
set_option maxRecDepth 100000 in
theorem o_Mo_at : zz_okC p_Mo_at false 12 3 := zz_okV (zz_mem_r (ws := [Cond.code p_Mo_at.y p_Mo_at.bytes p_Mo_at.maxL p_Mo_at.ret, Cond.initialized p_Mo_at.y.cls, Cond.instanceMethod p_Mo_at.y, Cond.selects p_Mo_at.y.cls p_Mo_at.y p_Mo_at.y]) [1716, 109, 1714, 1715] rfl (by decide +kernel)) rfl rfl (by decide +kernel) (by decide +kernel) rfl (by decide +kernel) rfl
def q_Mo_first : List zz_C := [(0, .aload_n 0, 1, []), (1, .iload_n 1, 1, []), (2, .iconst 0, 1, []), (3, .invokevirtual 317, 3, [221]), (6, .ireturn, 1, [])]
def p_Mo_first : zz_P := (222, ⟨"TurnQueuesModel", "first", "(I)I"⟩, prog_14_method_45_code, 2, (some .int), q_Mo_first)
set_option maxRecDepth 100000 in
theorem k_Mo_first : zz_okP p_Mo_first := ⟨by decide +kernel, zz_mem_r [1721] rfl (by decide +kernel)⟩
set_option maxRecDepth 100000 in
theorem o_Mo_first : zz_okC p_Mo_first false 12 2 := zz_okV (zz_mem_r (ws := [Cond.code p_Mo_first.y p_Mo_first.bytes p_Mo_first.maxL p_Mo_first.ret, Cond.initialized p_Mo_first.y.cls, Cond.instanceMethod p_Mo_first.y, Cond.selects p_Mo_first.y.cls p_Mo_first.y p_Mo_first.y]) [1720, 109, 1718, 1719] rfl (by decide +kernel)) rfl rfl (by decide +kernel) (by decide +kernel) rfl (by decide +kernel) rfl
def q_Mo_tail : List zz_C := [(0, .aload_n 0, 1, []), (1, .iload_n 1, 1, []), (2, .invokevirtual 311, 3, [216]), (5, .ifCond .ne 6, 3, [6]), (8, .bipush (-2), 2, []), (10, .ireturn, 1, []), (11, .aload_n 0, 1, []), (12, .getfield 44, 3, [1223]), (15, .iload_n 1, 1, []), (16, .iaload, 1, []), (17, .ifCond .ne 7, 3, [13]), (20, .iconst (-1), 1, []), (21, .goto 16, 3, [22]), (24, .aload_n 0, 1, []), (25, .iload_n 1, 1, []), (26, .aload_n 0, 1, []), (27, .getfield 44, 3, [1223]), (30, .iload_n 1, 1, []), (31, .iaload, 1, []), (32, .iconst 1, 1, []), (33, .isub, 1, []), (34, .invokevirtual 169, 3, [198]), (37, .ireturn, 1, [])]
def p_Mo_tail : zz_P := (223, ⟨"TurnQueuesModel", "tail", "(I)I"⟩, prog_14_method_46_code, 2, (some .int), q_Mo_tail)
set_option maxRecDepth 100000 in
theorem k_Mo_tail : zz_okP p_Mo_tail := ⟨by decide +kernel, zz_mem_r [1704, 1381, 1381, 1619] rfl (by decide +kernel)⟩
set_option maxRecDepth 100000 in
theorem o_Mo_tail : zz_okC p_Mo_tail false 12 2 := zz_okV (zz_mem_r (ws := [Cond.code p_Mo_tail.y p_Mo_tail.bytes p_Mo_tail.maxL p_Mo_tail.ret, Cond.initialized p_Mo_tail.y.cls, Cond.instanceMethod p_Mo_tail.y, Cond.selects p_Mo_tail.y.cls p_Mo_tail.y p_Mo_tail.y]) [1725, 109, 1723, 1724] rfl (by decide +kernel)) rfl rfl (by decide +kernel) (by decide +kernel) rfl (by decide +kernel) rfl
def q_Mo_areLike : List zz_C := [(0, .aload_n 0, 1, []), (1, .getfield 44, 3, [1223]), (4, .iload_n 1, 1, []), (5, .iaload, 1, []), (6, .aload_n 0, 1, []), (7, .getfield 44, 3, [1223]), (10, .iload_n 2, 1, []), (11, .iaload, 1, []), (12, .if_icmp .ne 7, 3, [11]), (15, .iconst 1, 1, []), (16, .goto 4, 3, [12]), (19, .iconst 0, 1, []), (20, .istore_n 3, 1, []), (21, .iconst 0, 1, []), (22, .istore 4, 2, []), (24, .iload 4, 2, []), (26, .aload_n 0, 1, []), (27, .getfield 44, 3, [1223]), (30, .iload_n 1, 1, []), (31, .iaload, 1, []), (32, .if_icmp .ge 36, 3, [38]), (35, .iload_n 3, 1, []), (36, .ifCond .eq 32, 3, [38]), (39, .aload_n 0, 1, []), (40, .iload_n 1, 1, []), (41, .iload 4, 2, []), (43, .invokevirtual 169, 3, [198]), (46, .aload_n 0, 1, []), (47, .iload_n 2, 1, []), (48, .iload 4, 2, []), (50, .invokevirtual 169, 3, [198]), (53, .if_icmp .ne 7, 3, [34]), (56, .iconst 1, 1, []), (57, .goto 4, 3, [35]), (60, .iconst 0, 1, []), (61, .istore_n 3, 1, []), (62, .iinc 4 1, 3, []), (65, .goto (-41), 3, [15]), (68, .iload_n 3, 1, []), (69, .ireturn, 1, [])]
def p_Mo_areLike : zz_P := (224, ⟨"TurnQueuesModel", "areLike", "(II)Z"⟩, prog_14_method_47_code, 5, (some .boolean), q_Mo_areLike)
set_option maxRecDepth 100000 in
theorem k_Mo_areLike : zz_okP p_Mo_areLike := ⟨by decide +kernel, zz_mem_r [1381, 1381, 1381, 1619, 1619] rfl (by decide +kernel)⟩
set_option maxRecDepth 100000 in
theorem o_Mo_areLike : zz_okC p_Mo_areLike false 12 3 := zz_okV (zz_mem_r (ws := [Cond.code p_Mo_areLike.y p_Mo_areLike.bytes p_Mo_areLike.maxL p_Mo_areLike.ret, Cond.initialized p_Mo_areLike.y.cls, Cond.instanceMethod p_Mo_areLike.y, Cond.selects p_Mo_areLike.y.cls p_Mo_areLike.y p_Mo_areLike.y]) [1733, 109, 1732, 67] rfl (by decide +kernel)) rfl rfl (by decide +kernel) (by decide +kernel) rfl (by decide +kernel) rfl
def q_Mo_like : List zz_C := [(0, .aload_n 0, 1, []), (1, .iload_n 1, 1, []), (2, .invokevirtual 311, 3, [216]), (5, .ifCond .ne 6, 3, [6]), (8, .bipush (-2), 2, []), (10, .ireturn, 1, []), (11, .iconst 0, 1, []), (12, .istore_n 2, 1, []), (13, .aload_n 0, 1, []), (14, .iload_n 1, 1, []), (15, .iload_n 2, 1, []), (16, .invokevirtual 319, 3, [224]), (19, .ifCond .ne 9, 3, [15]), (22, .iinc 2 1, 3, []), (25, .goto (-12), 3, [8]), (28, .iload_n 2, 1, []), (29, .ireturn, 1, [])]
def p_Mo_like : zz_P := (225, ⟨"TurnQueuesModel", "like", "(I)I"⟩, prog_14_method_48_code, 3, (some .int), q_Mo_like)
set_option maxRecDepth 100000 in
theorem k_Mo_like : zz_okP p_Mo_like := ⟨by decide +kernel, zz_mem_r [1704, 1730] rfl (by decide +kernel)⟩
set_option maxRecDepth 100000 in
theorem o_Mo_like : zz_okC p_Mo_like false 12 2 := zz_okV (zz_mem_r (ws := [Cond.code p_Mo_like.y p_Mo_like.bytes p_Mo_like.maxL p_Mo_like.ret, Cond.initialized p_Mo_like.y.cls, Cond.instanceMethod p_Mo_like.y, Cond.selects p_Mo_like.y.cls p_Mo_like.y p_Mo_like.y]) [1729, 109, 1727, 1728] rfl (by decide +kernel)) rfl rfl (by decide +kernel) (by decide +kernel) rfl (by decide +kernel) rfl
def q_Mo_forks : List zz_C := [(0, .aload_n 0, 1, []), (1, .iload_n 1, 1, []), (2, .invokevirtual 311, 3, [216]), (5, .ifCond .ne 6, 3, [6]), (8, .bipush (-2), 2, []), (10, .ireturn, 1, []), (11, .iconst 0, 1, []), (12, .istore_n 2, 1, []), (13, .iconst 1, 1, []), (14, .istore_n 3, 1, []), (15, .iload_n 3, 1, []), (16, .aload_n 0, 1, []), (17, .getfield 172, 3, [1215]), (20, .if_icmp .ge 27, 3, [28]), (23, .iload_n 2, 1, []), (24, .aload_n 0, 1, []), (25, .getfield 22, 3, [1216]), (28, .iload_n 3, 1, []), (29, .iaload, 1, []), (30, .iload_n 1, 1, []), (31, .if_icmp .ne 7, 3, [23]), (34, .iconst 1, 1, []), (35, .goto 4, 3, [24]), (38, .iconst 0, 1, []), (39, .iadd, 1, []), (40, .istore_n 2, 1, []), (41, .iinc 3 1, 3, []), (44, .goto (-29), 3, [10]), (47, .iload_n 2, 1, []), (48, .ireturn, 1, [])]
def p_Mo_forks : zz_P := (226, ⟨"TurnQueuesModel", "forks", "(I)I"⟩, prog_14_method_49_code, 4, (some .int), q_Mo_forks)
set_option maxRecDepth 100000 in
theorem k_Mo_forks : zz_okP p_Mo_forks := ⟨by decide +kernel, zz_mem_r [1704, 1373, 1374] rfl (by decide +kernel)⟩
set_option maxRecDepth 100000 in
theorem o_Mo_forks : zz_okC p_Mo_forks false 12 2 := zz_okV (zz_mem_r (ws := [Cond.code p_Mo_forks.y p_Mo_forks.bytes p_Mo_forks.maxL p_Mo_forks.ret, Cond.initialized p_Mo_forks.y.cls, Cond.instanceMethod p_Mo_forks.y, Cond.selects p_Mo_forks.y.cls p_Mo_forks.y p_Mo_forks.y]) [1737, 109, 1735, 1736] rfl (by decide +kernel)) rfl rfl (by decide +kernel) (by decide +kernel) rfl (by decide +kernel) rfl
def q_Mo_meetOf : List zz_C := [(0, .iload_n 1, 1, []), (1, .istore_n 3, 1, []), (2, .iload_n 2, 1, []), (3, .istore 4, 2, []), (5, .iload_n 3, 1, []), (6, .iload 4, 2, []), (8, .if_icmp .eq 31, 3, [22]), (11, .iload_n 3, 1, []), (12, .iload 4, 2, []), (14, .if_icmp .le 13, 3, [16]), (17, .aload_n 0, 1, []), (18, .getfield 22, 3, [1216]), (21, .iload_n 3, 1, []), (22, .iaload, 1, []), (23, .istore_n 3, 1, []), (24, .goto (-19), 3, [4]), (27, .aload_n 0, 1, []), (28, .getfield 22, 3, [1216]), (31, .iload 4, 2, []), (33, .iaload, 1, []), (34, .istore 4, 2, []), (36, .goto (-31), 3, [4]), (39, .iload_n 3, 1, []), (40, .ireturn, 1, [])]
def p_Mo_meetOf : zz_P := (227, ⟨"TurnQueuesModel", "meetOf", "(II)I"⟩, prog_14_method_50_code, 5, (some .int), q_Mo_meetOf)
set_option maxRecDepth 100000 in
theorem k_Mo_meetOf : zz_okP p_Mo_meetOf := ⟨by decide +kernel, zz_mem_r [1374, 1374] rfl (by decide +kernel)⟩
set_option maxRecDepth 100000 in
theorem o_Mo_meetOf : zz_okC p_Mo_meetOf false 12 3 := zz_okV (zz_mem_r (ws := [Cond.code p_Mo_meetOf.y p_Mo_meetOf.bytes p_Mo_meetOf.maxL p_Mo_meetOf.ret, Cond.initialized p_Mo_meetOf.y.cls, Cond.instanceMethod p_Mo_meetOf.y, Cond.selects p_Mo_meetOf.y.cls p_Mo_meetOf.y p_Mo_meetOf.y]) [1745, 109, 1744, 68] rfl (by decide +kernel)) rfl rfl (by decide +kernel) (by decide +kernel) rfl (by decide +kernel) rfl
def q_Mo_meet : List zz_C := [(0, .aload_n 0, 1, []), (1, .iload_n 1, 1, []), (2, .invokevirtual 311, 3, [216]), (5, .ifCond .eq 20, 3, [13]), (8, .aload_n 0, 1, []), (9, .iload_n 2, 1, []), (10, .invokevirtual 311, 3, [216]), (13, .ifCond .eq 12, 3, [13]), (16, .aload_n 0, 1, []), (17, .iload_n 1, 1, []), (18, .iload_n 2, 1, []), (19, .invokevirtual 323, 3, [227]), (22, .goto 5, 3, [14]), (25, .bipush (-2), 2, []), (27, .ireturn, 1, [])]
def p_Mo_meet : zz_P := (228, ⟨"TurnQueuesModel", "meet", "(II)I"⟩, prog_14_method_51_code, 3, (some .int), q_Mo_meet)
set_option maxRecDepth 100000 in
theorem k_Mo_meet : zz_okP p_Mo_meet := ⟨by decide +kernel, zz_mem_r [1704, 1704, 1742] rfl (by decide +kernel)⟩
set_option maxRecDepth 100000 in
theorem o_Mo_meet : zz_okC p_Mo_meet false 12 3 := zz_okV (zz_mem_r (ws := [Cond.code p_Mo_meet.y p_Mo_meet.bytes p_Mo_meet.maxL p_Mo_meet.ret, Cond.initialized p_Mo_meet.y.cls, Cond.instanceMethod p_Mo_meet.y, Cond.selects p_Mo_meet.y.cls p_Mo_meet.y p_Mo_meet.y]) [1741, 109, 1739, 1740] rfl (by decide +kernel)) rfl rfl (by decide +kernel) (by decide +kernel) rfl (by decide +kernel) rfl
def q_Mo_apart : List zz_C := [(0, .aload_n 0, 1, []), (1, .iload_n 1, 1, []), (2, .invokevirtual 311, 3, [216]), (5, .ifCond .eq 11, 3, [8]), (8, .aload_n 0, 1, []), (9, .iload_n 2, 1, []), (10, .invokevirtual 311, 3, [216]), (13, .ifCond .ne 6, 3, [10]), (16, .bipush (-2), 2, []), (18, .ireturn, 1, []), (19, .aload_n 0, 1, []), (20, .iload_n 1, 1, []), (21, .iload_n 2, 1, []), (22, .invokevirtual 323, 3, [227]), (25, .istore_n 3, 1, []), (26, .iconst 0, 1, []), (27, .istore 4, 2, []), (29, .iload_n 1, 1, []), (30, .istore 5, 2, []), (32, .iload 5, 2, []), (34, .iload_n 3, 1, []), (35, .if_icmp .eq 18, 3, [29]), (38, .iinc 4 1, 3, []), (41, .aload_n 0, 1, []), (42, .getfield 22, 3, [1216]), (45, .iload 5, 2, []), (47, .iaload, 1, []), (48, .istore 5, 2, []), (50, .goto (-18), 3, [19]), (53, .iload_n 2, 1, []), (54, .istore 5, 2, []), (56, .iload 5, 2, []), (58, .iload_n 3, 1, []), (59, .if_icmp .eq 18, 3, [41]), (62, .iinc 4 1, 3, []), (65, .aload_n 0, 1, []), (66, .getfield 22, 3, [1216]), (69, .iload 5, 2, []), (71, .iaload, 1, []), (72, .istore 5, 2, []), (74, .goto (-18), 3, [31]), (77, .iload 4, 2, []), (79, .ireturn, 1, [])]
def p_Mo_apart : zz_P := (229, ⟨"TurnQueuesModel", "apart", "(II)I"⟩, prog_14_method_52_code, 6, (some .int), q_Mo_apart)
set_option maxRecDepth 100000 in
theorem k_Mo_apart : zz_okP p_Mo_apart := ⟨by decide +kernel, zz_mem_r [1704, 1704, 1742, 1374, 1374] rfl (by decide +kernel)⟩
set_option maxRecDepth 100000 in
theorem o_Mo_apart : zz_okC p_Mo_apart false 12 3 := zz_okV (zz_mem_r (ws := [Cond.code p_Mo_apart.y p_Mo_apart.bytes p_Mo_apart.maxL p_Mo_apart.ret, Cond.initialized p_Mo_apart.y.cls, Cond.instanceMethod p_Mo_apart.y, Cond.selects p_Mo_apart.y.cls p_Mo_apart.y p_Mo_apart.y]) [1749, 109, 1747, 1748] rfl (by decide +kernel)) rfl rfl (by decide +kernel) (by decide +kernel) rfl (by decide +kernel) rfl
def q_Mo_areLikeRows : List zz_C := [(0, .aload_n 0, 1, []), (1, .iload_n 1, 1, []), (2, .iload_n 3, 1, []), (3, .invokevirtual 101, 3, [183]), (6, .istore 4, 2, []), (8, .aload_n 0, 1, []), (9, .iload_n 2, 1, []), (10, .iload_n 3, 1, []), (11, .invokevirtual 101, 3, [183]), (14, .istore 5, 2, []), (16, .iload 4, 2, []), (18, .iconst (-1), 1, []), (19, .if_icmp .eq 47, 3, [36]), (22, .iload 5, 2, []), (24, .iconst (-1), 1, []), (25, .if_icmp .eq 41, 3, [36]), (28, .aload_n 0, 1, []), (29, .getfield 9, 3, [1201]), (32, .iload 4, 2, []), (34, .iaload, 1, []), (35, .aload_n 0, 1, []), (36, .getfield 9, 3, [1201]), (39, .iload 5, 2, []), (41, .iaload, 1, []), (42, .if_icmp .ne 24, 3, [36]), (45, .aload_n 0, 1, []), (46, .getfield 13, 3, [1202]), (49, .iload 4, 2, []), (51, .iaload, 1, []), (52, .istore 4, 2, []), (54, .aload_n 0, 1, []), (55, .getfield 13, 3, [1202]), (58, .iload 5, 2, []), (60, .iaload, 1, []), (61, .istore 5, 2, []), (63, .goto (-47), 3, [10]), (66, .iload 4, 2, []), (68, .iconst (-1), 1, []), (69, .if_icmp .ne 13, 3, [44]), (72, .iload 5, 2, []), (74, .iconst (-1), 1, []), (75, .if_icmp .ne 7, 3, [44]), (78, .iconst 1, 1, []), (79, .goto 4, 3, [45]), (82, .iconst 0, 1, []), (83, .ireturn, 1, [])]
def p_Mo_areLikeRows : zz_P := (230, ⟨"TurnQueuesModel", "areLikeRows", "(III)Z"⟩, prog_14_method_53_code, 6, (some .boolean), q_Mo_areLikeRows)
set_option maxRecDepth 100000 in
theorem k_Mo_areLikeRows : zz_okP p_Mo_areLikeRows := ⟨by decide +kernel, zz_mem_r [1635, 1635, 1359, 1359, 1360, 1360] rfl (by decide +kernel)⟩
set_option maxRecDepth 100000 in
theorem o_Mo_areLikeRows : zz_okC p_Mo_areLikeRows false 12 4 := zz_okV (zz_mem_r (ws := [Cond.code p_Mo_areLikeRows.y p_Mo_areLikeRows.bytes p_Mo_areLikeRows.maxL p_Mo_areLikeRows.ret, Cond.initialized p_Mo_areLikeRows.y.cls, Cond.instanceMethod p_Mo_areLikeRows.y, Cond.selects p_Mo_areLikeRows.y.cls p_Mo_areLikeRows.y p_Mo_areLikeRows.y]) [1761, 109, 1760, 70] rfl (by decide +kernel)) rfl rfl (by decide +kernel) (by decide +kernel) rfl (by decide +kernel) rfl
def q_Mo_areTwins : List zz_C := [(0, .aload_n 0, 1, []), (1, .iload_n 1, 1, []), (2, .bipush 7, 2, []), (4, .invokevirtual 101, 3, [183]), (7, .istore_n 3, 1, []), (8, .aload_n 0, 1, []), (9, .iload_n 1, 1, []), (10, .iload_n 2, 1, []), (11, .iconst 0, 1, []), (12, .invokevirtual 326, 3, [230]), (15, .ifCond .eq 62, 3, [43]), (18, .aload_n 0, 1, []), (19, .iload_n 1, 1, []), (20, .iload_n 2, 1, []), (21, .iconst 1, 1, []), (22, .invokevirtual 326, 3, [230]), (25, .ifCond .eq 52, 3, [43]), (28, .iload_n 3, 1, []), (29, .aload_n 0, 1, []), (30, .iload_n 2, 1, []), (31, .bipush 7, 2, []), (33, .invokevirtual 101, 3, [183]), (36, .if_icmp .ne 41, 3, [43]), (39, .aload_n 0, 1, []), (40, .iload_n 1, 1, []), (41, .bipush 9, 2, []), (43, .invokevirtual 101, 3, [183]), (46, .aload_n 0, 1, []), (47, .iload_n 2, 1, []), (48, .bipush 9, 2, []), (50, .invokevirtual 101, 3, [183]), (53, .if_icmp .ne 24, 3, [43]), (56, .aload_n 0, 1, []), (57, .iload_n 1, 1, []), (58, .bipush 10, 2, []), (60, .invokevirtual 101, 3, [183]), (63, .aload_n 0, 1, []), (64, .iload_n 2, 1, []), (65, .bipush 10, 2, []), (67, .invokevirtual 101, 3, [183]), (70, .if_icmp .ne 7, 3, [43]), (73, .iconst 1, 1, []), (74, .goto 4, 3, [44]), (77, .iconst 0, 1, []), (78, .istore 4, 2, []), (80, .iload 4, 2, []), (82, .ifCond .eq 7, 3, [49]), (85, .iload_n 3, 1, []), (86, .ifCond .ne 6, 3, [51]), (89, .iload 4, 2, []), (91, .ireturn, 1, []), (92, .aload_n 0, 1, []), (93, .iload_n 1, 1, []), (94, .bipush 8, 2, []), (96, .invokevirtual 101, 3, [183]), (99, .aload_n 0, 1, []), (100, .iload_n 2, 1, []), (101, .bipush 8, 2, []), (103, .invokevirtual 101, 3, [183]), (106, .if_icmp .ne 27, 3, [74]), (109, .aload_n 0, 1, []), (110, .iload_n 1, 1, []), (111, .iload_n 2, 1, []), (112, .iconst 3, 1, []), (113, .invokevirtual 326, 3, [230]), (116, .ifCond .eq 17, 3, [74]), (119, .aload_n 0, 1, []), (120, .iload_n 1, 1, []), (121, .iload_n 2, 1, []), (122, .iconst 5, 1, []), (123, .invokevirtual 326, 3, [230]), (126, .ifCond .eq 7, 3, [74]), (129, .iconst 1, 1, []), (130, .goto 4, 3, [75]), (133, .iconst 0, 1, []), (134, .istore 4, 2, []), (136, .iload 4, 2, []), (138, .ifCond .eq 32, 3, [95]), (141, .iload_n 3, 1, []), (142, .iconst 2, 1, []), (143, .if_icmp .eq 23, 3, [93]), (146, .aload_n 0, 1, []), (147, .iload_n 1, 1, []), (148, .iload_n 2, 1, []), (149, .iconst 2, 1, []), (150, .invokevirtual 326, 3, [230]), (153, .ifCond .eq 17, 3, [95]), (156, .aload_n 0, 1, []), (157, .iload_n 1, 1, []), (158, .iload_n 2, 1, []), (159, .iconst 4, 1, []), (160, .invokevirtual 326, 3, [230]), (163, .ifCond .eq 7, 3, [95]), (166, .iconst 1, 1, []), (167, .goto 4, 3, [96]), (170, .iconst 0, 1, []), (171, .ireturn, 1, [])]
def p_Mo_areTwins : zz_P := (231, ⟨"TurnQueuesModel", "areTwins", "(II)Z"⟩, prog_14_method_54_code, 5, (some .boolean), q_Mo_areTwins)
set_option maxRecDepth 100000 in
theorem k_Mo_areTwins : zz_okP p_Mo_areTwins := ⟨by decide +kernel, zz_mem_r [1635, 1758, 1758, 1635, 1635, 1635, 1635, 1635, 1635, 1635, 1758, 1758, 1758, 1758] rfl (by decide +kernel)⟩
set_option maxRecDepth 100000 in
theorem o_Mo_areTwins : zz_okC p_Mo_areTwins false 12 3 := zz_okV (zz_mem_r (ws := [Cond.code p_Mo_areTwins.y p_Mo_areTwins.bytes p_Mo_areTwins.maxL p_Mo_areTwins.ret, Cond.initialized p_Mo_areTwins.y.cls, Cond.instanceMethod p_Mo_areTwins.y, Cond.selects p_Mo_areTwins.y.cls p_Mo_areTwins.y p_Mo_areTwins.y]) [1757, 109, 1756, 69] rfl (by decide +kernel)) rfl rfl (by decide +kernel) (by decide +kernel) rfl (by decide +kernel) rfl
def q_Mo_twin : List zz_C := [(0, .aload_n 0, 1, []), (1, .iload_n 1, 1, []), (2, .invokevirtual 311, 3, [216]), (5, .ifCond .ne 6, 3, [6]), (8, .bipush (-2), 2, []), (10, .ireturn, 1, []), (11, .iconst 0, 1, []), (12, .istore_n 2, 1, []), (13, .aload_n 0, 1, []), (14, .iload_n 1, 1, []), (15, .iload_n 2, 1, []), (16, .invokevirtual 330, 3, [231]), (19, .ifCond .ne 9, 3, [15]), (22, .iinc 2 1, 3, []), (25, .goto (-12), 3, [8]), (28, .iload_n 2, 1, []), (29, .ireturn, 1, [])]
def p_Mo_twin : zz_P := (232, ⟨"TurnQueuesModel", "twin", "(I)I"⟩, prog_14_method_55_code, 3, (some .int), q_Mo_twin)
set_option maxRecDepth 100000 in
theorem k_Mo_twin : zz_okP p_Mo_twin := ⟨by decide +kernel, zz_mem_r [1704, 1754] rfl (by decide +kernel)⟩
set_option maxRecDepth 100000 in
theorem o_Mo_twin : zz_okC p_Mo_twin false 12 2 := zz_okV (zz_mem_r (ws := [Cond.code p_Mo_twin.y p_Mo_twin.bytes p_Mo_twin.maxL p_Mo_twin.ret, Cond.initialized p_Mo_twin.y.cls, Cond.instanceMethod p_Mo_twin.y, Cond.selects p_Mo_twin.y.cls p_Mo_twin.y p_Mo_twin.y]) [1753, 109, 1751, 1752] rfl (by decide +kernel)) rfl rfl (by decide +kernel) (by decide +kernel) rfl (by decide +kernel) rfl
def q_Mo_deepOf : List zz_C := [(0, .iconst 0, 1, []), (1, .istore_n 2, 1, []), (2, .iload_n 1, 1, []), (3, .istore_n 3, 1, []), (4, .iload_n 3, 1, []), (5, .ifCond .le 16, 3, [13]), (8, .iinc 2 1, 3, []), (11, .aload_n 0, 1, []), (12, .getfield 22, 3, [1216]), (15, .iload_n 3, 1, []), (16, .iaload, 1, []), (17, .istore_n 3, 1, []), (18, .goto (-14), 3, [4]), (21, .iload_n 2, 1, []), (22, .ireturn, 1, [])]
def p_Mo_deepOf : zz_P := (233, ⟨"TurnQueuesModel", "deepOf", "(I)I"⟩, prog_14_method_56_code, 4, (some .int), q_Mo_deepOf)
set_option maxRecDepth 100000 in
theorem k_Mo_deepOf : zz_okP p_Mo_deepOf := ⟨by decide +kernel, zz_mem_r [1374] rfl (by decide +kernel)⟩
set_option maxRecDepth 100000 in
theorem o_Mo_deepOf : zz_okC p_Mo_deepOf false 12 2 := zz_okV (zz_mem_r (ws := [Cond.code p_Mo_deepOf.y p_Mo_deepOf.bytes p_Mo_deepOf.maxL p_Mo_deepOf.ret, Cond.initialized p_Mo_deepOf.y.cls, Cond.instanceMethod p_Mo_deepOf.y, Cond.selects p_Mo_deepOf.y.cls p_Mo_deepOf.y p_Mo_deepOf.y]) [1769, 109, 1768, 71] rfl (by decide +kernel)) rfl rfl (by decide +kernel) (by decide +kernel) rfl (by decide +kernel) rfl
def q_Mo_path : List zz_C := [(0, .aload_n 0, 1, []), (1, .iload_n 1, 1, []), (2, .invokevirtual 311, 3, [216]), (5, .ifCond .eq 7, 3, [6]), (8, .iload_n 2, 1, []), (9, .ifCond .ge 6, 3, [8]), (12, .bipush (-2), 2, []), (14, .ireturn, 1, []), (15, .aload_n 0, 1, []), (16, .iload_n 1, 1, []), (17, .invokevirtual 333, 3, [233]), (20, .iload_n 2, 1, []), (21, .isub, 1, []), (22, .istore_n 3, 1, []), (23, .iload_n 3, 1, []), (24, .ifCond .ge 5, 3, [18]), (27, .iconst (-1), 1, []), (28, .ireturn, 1, []), (29, .iload_n 1, 1, []), (30, .istore 4, 2, []), (32, .iconst 0, 1, []), (33, .istore 5, 2, []), (35, .iload 5, 2, []), (37, .iload_n 3, 1, []), (38, .if_icmp .ge 18, 3, [32]), (41, .aload_n 0, 1, []), (42, .getfield 22, 3, [1216]), (45, .iload 4, 2, []), (47, .iaload, 1, []), (48, .istore 4, 2, []), (50, .iinc 5 1, 3, []), (53, .goto (-18), 3, [22]), (56, .iload 4, 2, []), (58, .ireturn, 1, [])]
def p_Mo_path : zz_P := (234, ⟨"TurnQueuesModel", "path", "(II)I"⟩, prog_14_method_57_code, 6, (some .int), q_Mo_path)
set_option maxRecDepth 100000 in
theorem k_Mo_path : zz_okP p_Mo_path := ⟨by decide +kernel, zz_mem_r [1704, 1766, 1374] rfl (by decide +kernel)⟩
set_option maxRecDepth 100000 in
theorem o_Mo_path : zz_okC p_Mo_path false 12 3 := zz_okV (zz_mem_r (ws := [Cond.code p_Mo_path.y p_Mo_path.bytes p_Mo_path.maxL p_Mo_path.ret, Cond.initialized p_Mo_path.y.cls, Cond.instanceMethod p_Mo_path.y, Cond.selects p_Mo_path.y.cls p_Mo_path.y p_Mo_path.y]) [1765, 109, 1763, 1764] rfl (by decide +kernel)) rfl rfl (by decide +kernel) (by decide +kernel) rfl (by decide +kernel) rfl
def q_Mo_along : List zz_C := [(0, .aload_n 0, 1, []), (1, .iload_n 1, 1, []), (2, .invokevirtual 311, 3, [216]), (5, .ifCond .eq 15, 3, [10]), (8, .iload_n 2, 1, []), (9, .i2l, 1, []), (10, .lconst 0, 1, []), (11, .ldc2_w 315, 3, [2]), (14, .invokestatic 195, 3, [180]), (17, .ifCond .ne 6, 3, [12]), (20, .bipush (-2), 2, []), (22, .ireturn, 1, []), (23, .iconst 0, 1, []), (24, .istore_n 3, 1, []), (25, .iconst 0, 1, []), (26, .istore 4, 2, []), (28, .iload_n 1, 1, []), (29, .istore 5, 2, []), (31, .iload 5, 2, []), (33, .ifCond .le 39, 3, [40]), (36, .iload_n 3, 1, []), (37, .aload_n 0, 1, []), (38, .getfield 31, 3, [1219]), (41, .iload 5, 2, []), (43, .iaload, 1, []), (44, .iadd, 1, []), (45, .istore_n 3, 1, []), (46, .iload 4, 2, []), (48, .aload_n 0, 1, []), (49, .getfield 31, 3, [1219]), (52, .iload 5, 2, []), (54, .iaload, 1, []), (55, .invokestatic 336, 3, [299]), (58, .istore 4, 2, []), (60, .aload_n 0, 1, []), (61, .getfield 22, 3, [1216]), (64, .iload 5, 2, []), (66, .iaload, 1, []), (67, .istore 5, 2, []), (69, .goto (-38), 3, [18]), (72, .iload_n 2, 1, []), (73, .ifCond .ne 11, 3, [46]), (76, .aload_n 0, 1, []), (77, .iload_n 1, 1, []), (78, .invokevirtual 333, 3, [233]), (81, .goto 14, 3, [52]), (84, .iload_n 2, 1, []), (85, .iconst 1, 1, []), (86, .if_icmp .ne 7, 3, [51]), (89, .iload_n 3, 1, []), (90, .goto 5, 3, [52]), (93, .iload 4, 2, []), (95, .ireturn, 1, [])]
def p_Mo_along : zz_P := (235, ⟨"TurnQueuesModel", "along", "(II)I"⟩, prog_14_method_58_code, 6, (some .int), q_Mo_along)
set_option maxRecDepth 100000 in
theorem k_Mo_along : zz_okP p_Mo_along := ⟨by decide +kernel, zz_mem_r [1704, 1708, 1541, 1377, 1377, 1774, 1374, 1766] rfl (by decide +kernel)⟩
set_option maxRecDepth 100000 in
theorem o_Mo_along : zz_okC p_Mo_along false 12 3 := zz_okV (zz_mem_r (ws := [Cond.code p_Mo_along.y p_Mo_along.bytes p_Mo_along.maxL p_Mo_along.ret, Cond.initialized p_Mo_along.y.cls, Cond.instanceMethod p_Mo_along.y, Cond.selects p_Mo_along.y.cls p_Mo_along.y p_Mo_along.y]) [1773, 109, 1771, 1772] rfl (by decide +kernel)) rfl rfl (by decide +kernel) (by decide +kernel) rfl (by decide +kernel) rfl
def q_Mo_deedOf : List zz_C := [(0, .aload_n 0, 1, []), (1, .getfield 172, 3, [1215]), (4, .iconst 1, 1, []), (5, .isub, 1, []), (6, .istore_n 2, 1, []), (7, .aload_n 0, 1, []), (8, .getfield 38, 3, [1221]), (11, .iload_n 2, 1, []), (12, .iaload, 1, []), (13, .iload_n 1, 1, []), (14, .if_icmp .le 9, 3, [13]), (17, .iinc 2 (-1), 3, []), (20, .goto (-13), 3, [5]), (23, .iload_n 2, 1, []), (24, .iconst 1, 1, []), (25, .isub, 1, []), (26, .ireturn, 1, [])]
def p_Mo_deedOf : zz_P := (236, ⟨"TurnQueuesModel", "deedOf", "(I)I"⟩, prog_14_method_59_code, 3, (some .int), q_Mo_deedOf)
set_option maxRecDepth 100000 in
theorem k_Mo_deedOf : zz_okP p_Mo_deedOf := ⟨by decide +kernel, zz_mem_r [1373, 1379] rfl (by decide +kernel)⟩
set_option maxRecDepth 100000 in
theorem o_Mo_deedOf : zz_okC p_Mo_deedOf false 12 2 := zz_okV (zz_mem_r (ws := [Cond.code p_Mo_deedOf.y p_Mo_deedOf.bytes p_Mo_deedOf.maxL p_Mo_deedOf.ret, Cond.initialized p_Mo_deedOf.y.cls, Cond.instanceMethod p_Mo_deedOf.y, Cond.selects p_Mo_deedOf.y.cls p_Mo_deedOf.y p_Mo_deedOf.y]) [1782, 109, 1781, 72] rfl (by decide +kernel)) rfl rfl (by decide +kernel) (by decide +kernel) rfl (by decide +kernel) rfl
def q_Mo_origin : List zz_C := [(0, .aload_n 0, 1, []), (1, .iload_n 1, 1, []), (2, .invokevirtual 311, 3, [216]), (5, .ifCond .eq 19, 3, [12]), (8, .iload_n 2, 1, []), (9, .i2l, 1, []), (10, .lconst 0, 1, []), (11, .ldc2_w 306, 3, [5]), (14, .invokestatic 195, 3, [180]), (17, .ifCond .eq 7, 3, [12]), (20, .iload_n 3, 1, []), (21, .ifCond .ge 6, 3, [14]), (24, .bipush (-2), 2, []), (26, .ireturn, 1, []), (27, .aload_n 0, 1, []), (28, .iload_n 1, 1, []), (29, .iload_n 2, 1, []), (30, .invokevirtual 101, 3, [183]), (33, .istore 4, 2, []), (35, .iconst 0, 1, []), (36, .istore 5, 2, []), (38, .iload 5, 2, []), (40, .iload_n 3, 1, []), (41, .if_icmp .ge 24, 3, [34]), (44, .iload 4, 2, []), (46, .iconst (-1), 1, []), (47, .if_icmp .eq 18, 3, [34]), (50, .aload_n 0, 1, []), (51, .getfield 13, 3, [1202]), (54, .iload 4, 2, []), (56, .iaload, 1, []), (57, .istore 4, 2, []), (59, .iinc 5 1, 3, []), (62, .goto (-24), 3, [21]), (65, .iload 4, 2, []), (67, .iconst (-1), 1, []), (68, .if_icmp .ne 7, 3, [39]), (71, .iconst (-1), 1, []), (72, .goto 9, 3, [42]), (75, .aload_n 0, 1, []), (76, .iload 4, 2, []), (78, .invokevirtual 339, 3, [236]), (81, .ireturn, 1, [])]
def p_Mo_origin : zz_P := (237, ⟨"TurnQueuesModel", "origin", "(III)I"⟩, prog_14_method_60_code, 6, (some .int), q_Mo_origin)
set_option maxRecDepth 100000 in
theorem k_Mo_origin : zz_okP p_Mo_origin := ⟨by decide +kernel, zz_mem_r [1704, 1691, 1541, 1635, 1360, 1779] rfl (by decide +kernel)⟩
set_option maxRecDepth 100000 in
theorem o_Mo_origin : zz_okC p_Mo_origin false 12 4 := zz_okV (zz_mem_r (ws := [Cond.code p_Mo_origin.y p_Mo_origin.bytes p_Mo_origin.maxL p_Mo_origin.ret, Cond.initialized p_Mo_origin.y.cls, Cond.instanceMethod p_Mo_origin.y, Cond.selects p_Mo_origin.y.cls p_Mo_origin.y p_Mo_origin.y]) [1778, 109, 1776, 1777] rfl (by decide +kernel)) rfl rfl (by decide +kernel) (by decide +kernel) rfl (by decide +kernel) rfl
def q_Mo_from : List zz_C := [(0, .aload_n 0, 1, []), (1, .iload_n 1, 1, []), (2, .invokevirtual 311, 3, [216]), (5, .ifCond .eq 19, 3, [14]), (8, .iload_n 2, 1, []), (9, .i2l, 1, []), (10, .lconst 0, 1, []), (11, .aload_n 0, 1, []), (12, .invokevirtual 308, 3, [217]), (15, .iconst 1, 1, []), (16, .isub, 1, []), (17, .i2l, 1, []), (18, .invokestatic 195, 3, [180]), (21, .ifCond .ne 6, 3, [16]), (24, .bipush (-2), 2, []), (26, .ireturn, 1, []), (27, .aload_n 0, 1, []), (28, .invokevirtual 342, 3, [243]), (31, .aload_n 0, 1, []), (32, .iload_n 1, 1, []), (33, .iconst 1, 1, []), (34, .invokevirtual 345, 3, [244]), (37, .iconst 0, 1, []), (38, .istore_n 3, 1, []), (39, .iconst 0, 1, []), (40, .istore 4, 2, []), (42, .iload 4, 2, []), (44, .aload_n 0, 1, []), (45, .getfield 94, 3, [1203]), (48, .if_icmp .ge 38, 3, [49]), (51, .iload_n 3, 1, []), (52, .aload_n 0, 1, []), (53, .getfield 70, 3, [1241]), (56, .iload 4, 2, []), (58, .iaload, 1, []), (59, .iconst 1, 1, []), (60, .if_icmp .ne 17, 3, [44]), (63, .aload_n 0, 1, []), (64, .iload 4, 2, []), (66, .invokevirtual 339, 3, [236]), (69, .iload_n 2, 1, []), (70, .if_icmp .ne 7, 3, [44]), (73, .iconst 1, 1, []), (74, .goto 4, 3, [45]), (77, .iconst 0, 1, []), (78, .iadd, 1, []), (79, .istore_n 3, 1, []), (80, .iinc 4 1, 3, []), (83, .goto (-41), 3, [26]), (86, .iload_n 3, 1, []), (87, .ireturn, 1, [])]
def p_Mo_from : zz_P := (238, ⟨"TurnQueuesModel", "from", "(II)I"⟩, prog_14_method_61_code, 5, (some .int), q_Mo_from)
set_option maxRecDepth 100000 in
theorem k_Mo_from : zz_okP p_Mo_from := ⟨by decide +kernel, zz_mem_r [1704, 1696, 1541, 1787, 1791, 1361, 1399, 1779] rfl (by decide +kernel)⟩
set_option maxRecDepth 100000 in
theorem o_Mo_from : zz_okC p_Mo_from false 12 3 := zz_okV (zz_mem_r (ws := [Cond.code p_Mo_from.y p_Mo_from.bytes p_Mo_from.maxL p_Mo_from.ret, Cond.initialized p_Mo_from.y.cls, Cond.instanceMethod p_Mo_from.y, Cond.selects p_Mo_from.y.cls p_Mo_from.y p_Mo_from.y]) [1786, 109, 1784, 1785] rfl (by decide +kernel)) rfl rfl (by decide +kernel) (by decide +kernel) rfl (by decide +kernel) rfl
def q_Mo_lost : List zz_C := [(0, .aload_n 0, 1, []), (1, .invokevirtual 300, 3, [215]), (4, .ifCond .eq 23, 3, [15]), (7, .aload_n 0, 1, []), (8, .getfield 94, 3, [1203]), (11, .aload_n 0, 1, []), (12, .lconst 1, 1, []), (13, .aload_n 0, 1, []), (14, .getfield 172, 3, [1215]), (17, .lshl, 1, []), (18, .lconst 1, 1, []), (19, .lsub, 1, []), (20, .invokevirtual 348, 3, [248]), (23, .isub, 1, []), (24, .goto 5, 3, [16]), (27, .bipush (-2), 2, []), (29, .ireturn, 1, [])]
def p_Mo_lost : zz_P := (239, ⟨"TurnQueuesModel", "lost", "()I"⟩, prog_14_method_62_code, 1, (some .int), q_Mo_lost)
set_option maxRecDepth 100000 in
theorem k_Mo_lost : zz_okP p_Mo_lost := ⟨by decide +kernel, zz_mem_r [1692, 1361, 1373, 1799] rfl (by decide +kernel)⟩
set_option maxRecDepth 100000 in
theorem o_Mo_lost : zz_okC p_Mo_lost false 12 1 := zz_okV (zz_mem_r (ws := [Cond.code p_Mo_lost.y p_Mo_lost.bytes p_Mo_lost.maxL p_Mo_lost.ret, Cond.initialized p_Mo_lost.y.cls, Cond.instanceMethod p_Mo_lost.y, Cond.selects p_Mo_lost.y.cls p_Mo_lost.y p_Mo_lost.y]) [1798, 109, 1796, 1797] rfl (by decide +kernel)) rfl rfl (by decide +kernel) (by decide +kernel) rfl (by decide +kernel) rfl
def q_Mo_state : List zz_C := [(0, .aload_n 0, 1, []), (1, .iload_n 1, 1, []), (2, .invokevirtual 311, 3, [216]), (5, .ifCond .eq 15, 3, [10]), (8, .iload_n 2, 1, []), (9, .i2l, 1, []), (10, .lconst 0, 1, []), (11, .ldc2_w 352, 3, [4]), (14, .invokestatic 195, 3, [180]), (17, .ifCond .ne 6, 3, [12]), (20, .bipush (-2), 2, []), (22, .ireturn, 1, []), (23, .iload_n 2, 1, []), (24, .tableswitch 73 0 2 #[28, 36, 44], 28, [40, 14, 19, 24]), (52, .aload_n 0, 1, []), (53, .iload_n 1, 1, []), (54, .bipush 7, 2, []), (56, .invokevirtual 101, 3, [183]), (59, .ireturn, 1, []), (60, .aload_n 0, 1, []), (61, .iload_n 1, 1, []), (62, .bipush 8, 2, []), (64, .invokevirtual 101, 3, [183]), (67, .ireturn, 1, []), (68, .aload_n 0, 1, []), (69, .getfield 186, 3, [1211]), (72, .iconst 1, 1, []), (73, .if_icmp .ne 13, 3, [33]), (76, .aload_n 0, 1, []), (77, .iload_n 1, 1, []), (78, .bipush 6, 2, []), (80, .invokevirtual 101, 3, [183]), (83, .goto 13, 3, [39]), (86, .aload_n 0, 1, []), (87, .aload_n 0, 1, []), (88, .iload_n 1, 1, []), (89, .iconst 0, 1, []), (90, .invokevirtual 101, 3, [183]), (93, .invokevirtual 145, 3, [182]), (96, .ireturn, 1, []), (97, .aload_n 0, 1, []), (98, .iload_n 1, 1, []), (99, .bipush 9, 2, []), (101, .iload_n 2, 1, []), (102, .iadd, 1, []), (103, .iconst 3, 1, []), (104, .isub, 1, []), (105, .invokevirtual 101, 3, [183]), (108, .ireturn, 1, [])]
def p_Mo_state : zz_P := (240, ⟨"TurnQueuesModel", "state", "(II)I"⟩, prog_14_method_63_code, 3, (some .int), q_Mo_state)
set_option maxRecDepth 100000 in
theorem k_Mo_state : zz_okP p_Mo_state := ⟨by decide +kernel, zz_mem_r [1704, 1811, 1541, 1635, 1635, 1369, 1635, 1635, 1667, 1635] rfl (by decide +kernel)⟩
set_option maxRecDepth 100000 in
theorem o_Mo_state : zz_okC p_Mo_state false 12 3 := zz_okV (zz_mem_r (ws := [Cond.code p_Mo_state.y p_Mo_state.bytes p_Mo_state.maxL p_Mo_state.ret, Cond.initialized p_Mo_state.y.cls, Cond.instanceMethod p_Mo_state.y, Cond.selects p_Mo_state.y.cls p_Mo_state.y p_Mo_state.y]) [1810, 109, 1808, 1809] rfl (by decide +kernel)) rfl rfl (by decide +kernel) (by decide +kernel) rfl (by decide +kernel) rfl
def q_Mo_row : List zz_C := [(0, .aload_n 0, 1, []), (1, .iload_n 1, 1, []), (2, .invokevirtual 311, 3, [216]), (5, .ifCond .eq 28, 3, [17]), (8, .iload_n 2, 1, []), (9, .i2l, 1, []), (10, .lconst 0, 1, []), (11, .ldc2_w 306, 3, [5]), (14, .invokestatic 195, 3, [180]), (17, .ifCond .eq 16, 3, [17]), (20, .aload_n 0, 1, []), (21, .aload_n 0, 1, []), (22, .iload_n 1, 1, []), (23, .iload_n 2, 1, []), (24, .invokevirtual 101, 3, [183]), (27, .invokevirtual 145, 3, [182]), (30, .goto 5, 3, [18]), (33, .bipush (-2), 2, []), (35, .ireturn, 1, [])]
def p_Mo_row : zz_P := (241, ⟨"TurnQueuesModel", "row", "(II)I"⟩, prog_14_method_64_code, 3, (some .int), q_Mo_row)
set_option maxRecDepth 100000 in
theorem k_Mo_row : zz_okP p_Mo_row := ⟨by decide +kernel, zz_mem_r [1704, 1691, 1541, 1635, 1667] rfl (by decide +kernel)⟩
set_option maxRecDepth 100000 in
theorem o_Mo_row : zz_okC p_Mo_row false 12 3 := zz_okV (zz_mem_r (ws := [Cond.code p_Mo_row.y p_Mo_row.bytes p_Mo_row.maxL p_Mo_row.ret, Cond.initialized p_Mo_row.y.cls, Cond.instanceMethod p_Mo_row.y, Cond.selects p_Mo_row.y.cls p_Mo_row.y p_Mo_row.y]) [1815, 109, 1813, 1814] rfl (by decide +kernel)) rfl rfl (by decide +kernel) (by decide +kernel) rfl (by decide +kernel) rfl
def q_Mo_cell : List zz_C := [(0, .aload_n 0, 1, []), (1, .iload_n 1, 1, []), (2, .invokevirtual 311, 3, [216]), (5, .ifCond .eq 19, 3, [12]), (8, .iload_n 2, 1, []), (9, .i2l, 1, []), (10, .lconst 0, 1, []), (11, .ldc2_w 306, 3, [5]), (14, .invokestatic 195, 3, [180]), (17, .ifCond .eq 7, 3, [12]), (20, .iload_n 3, 1, []), (21, .ifCond .ge 6, 3, [14]), (24, .bipush (-2), 2, []), (26, .ireturn, 1, []), (27, .aload_n 0, 1, []), (28, .iload_n 1, 1, []), (29, .iload_n 2, 1, []), (30, .invokevirtual 101, 3, [183]), (33, .istore 4, 2, []), (35, .iconst 0, 1, []), (36, .istore 5, 2, []), (38, .iload 5, 2, []), (40, .iload_n 3, 1, []), (41, .if_icmp .ge 24, 3, [34]), (44, .iload 4, 2, []), (46, .iconst (-1), 1, []), (47, .if_icmp .eq 18, 3, [34]), (50, .aload_n 0, 1, []), (51, .getfield 13, 3, [1202]), (54, .iload 4, 2, []), (56, .iaload, 1, []), (57, .istore 4, 2, []), (59, .iinc 5 1, 3, []), (62, .goto (-24), 3, [21]), (65, .iload 4, 2, []), (67, .iconst (-1), 1, []), (68, .if_icmp .ne 7, 3, [39]), (71, .iconst (-1), 1, []), (72, .goto 10, 3, [43]), (75, .aload_n 0, 1, []), (76, .getfield 9, 3, [1201]), (79, .iload 4, 2, []), (81, .iaload, 1, []), (82, .ireturn, 1, [])]
def p_Mo_cell : zz_P := (242, ⟨"TurnQueuesModel", "cell", "(III)I"⟩, prog_14_method_65_code, 6, (some .int), q_Mo_cell)
set_option maxRecDepth 100000 in
theorem k_Mo_cell : zz_okP p_Mo_cell := ⟨by decide +kernel, zz_mem_r [1704, 1691, 1541, 1635, 1360, 1359] rfl (by decide +kernel)⟩
set_option maxRecDepth 100000 in
theorem o_Mo_cell : zz_okC p_Mo_cell false 12 4 := zz_okV (zz_mem_r (ws := [Cond.code p_Mo_cell.y p_Mo_cell.bytes p_Mo_cell.maxL p_Mo_cell.ret, Cond.initialized p_Mo_cell.y.cls, Cond.instanceMethod p_Mo_cell.y, Cond.selects p_Mo_cell.y.cls p_Mo_cell.y p_Mo_cell.y]) [1819, 109, 1817, 1818] rfl (by decide +kernel)) rfl rfl (by decide +kernel) (by decide +kernel) rfl (by decide +kernel) rfl
def q_Mo_forgets : List zz_C := [(0, .iconst 0, 1, []), (1, .istore_n 1, 1, []), (2, .iload_n 1, 1, []), (3, .aload_n 0, 1, []), (4, .getfield 94, 3, [1203]), (7, .if_icmp .ge 16, 3, [13]), (10, .aload_n 0, 1, []), (11, .getfield 70, 3, [1241]), (14, .iload_n 1, 1, []), (15, .iconst 0, 1, []), (16, .iastore, 1, []), (17, .iinc 1 1, 3, []), (20, .goto (-18), 3, [2]), (23, .return_, 1, [])]
def p_Mo_forgets : zz_P := (243, ⟨"TurnQueuesModel", "forgets", "()V"⟩, prog_14_method_66_code, 2, none, q_Mo_forgets)
set_option maxRecDepth 100000 in
theorem k_Mo_forgets : zz_okP p_Mo_forgets := ⟨by decide +kernel, zz_mem_r [1361, 1399] rfl (by decide +kernel)⟩
set_option maxRecDepth 100000 in
theorem o_Mo_forgets : zz_okC p_Mo_forgets false 12 1 := zz_okV (zz_mem_r (ws := [Cond.code p_Mo_forgets.y p_Mo_forgets.bytes p_Mo_forgets.maxL p_Mo_forgets.ret, Cond.initialized p_Mo_forgets.y.cls, Cond.instanceMethod p_Mo_forgets.y, Cond.selects p_Mo_forgets.y.cls p_Mo_forgets.y p_Mo_forgets.y]) [1790, 109, 1789, 73] rfl (by decide +kernel)) rfl rfl (by decide +kernel) (by decide +kernel) rfl (by decide +kernel) rfl
def q_Mo_marks : List zz_C := [(0, .iconst 0, 1, []), (1, .istore_n 3, 1, []), (2, .iload_n 3, 1, []), (3, .bipush 6, 2, []), (5, .if_icmp .ge 46, 3, [29]), (8, .aload_n 0, 1, []), (9, .iload_n 1, 1, []), (10, .iload_n 3, 1, []), (11, .invokevirtual 101, 3, [183]), (14, .istore 4, 2, []), (16, .iload 4, 2, []), (18, .iconst (-1), 1, []), (19, .if_icmp .eq 26, 3, [27]), (22, .aload_n 0, 1, []), (23, .getfield 70, 3, [1241]), (26, .iload 4, 2, []), (28, .dup2, 1, []), (29, .iaload, 1, []), (30, .iload_n 2, 1, []), (31, .ior, 1, []), (32, .iastore, 1, []), (33, .aload_n 0, 1, []), (34, .getfield 13, 3, [1202]), (37, .iload 4, 2, []), (39, .iaload, 1, []), (40, .istore 4, 2, []), (42, .goto (-26), 3, [10]), (45, .iinc 3 1, 3, []), (48, .goto (-46), 3, [2]), (51, .return_, 1, [])]
def p_Mo_marks : zz_P := (244, ⟨"TurnQueuesModel", "marks", "(II)V"⟩, prog_14_method_67_code, 5, none, q_Mo_marks)
set_option maxRecDepth 100000 in
theorem k_Mo_marks : zz_okP p_Mo_marks := ⟨by decide +kernel, zz_mem_r [1635, 1399, 1360] rfl (by decide +kernel)⟩
set_option maxRecDepth 100000 in
theorem o_Mo_marks : zz_okC p_Mo_marks false 12 3 := zz_okV (zz_mem_r (ws := [Cond.code p_Mo_marks.y p_Mo_marks.bytes p_Mo_marks.maxL p_Mo_marks.ret, Cond.initialized p_Mo_marks.y.cls, Cond.instanceMethod p_Mo_marks.y, Cond.selects p_Mo_marks.y.cls p_Mo_marks.y p_Mo_marks.y]) [1794, 109, 1793, 74] rfl (by decide +kernel)) rfl rfl (by decide +kernel) (by decide +kernel) rfl (by decide +kernel) rfl
def q_Mo_marked : List zz_C := [(0, .iconst 0, 1, []), (1, .istore_n 2, 1, []), (2, .iconst 0, 1, []), (3, .istore_n 3, 1, []), (4, .iload_n 3, 1, []), (5, .aload_n 0, 1, []), (6, .getfield 94, 3, [1203]), (9, .if_icmp .ge 27, 3, [22]), (12, .iload_n 2, 1, []), (13, .aload_n 0, 1, []), (14, .getfield 70, 3, [1241]), (17, .iload_n 3, 1, []), (18, .iaload, 1, []), (19, .iload_n 1, 1, []), (20, .if_icmp .ne 7, 3, [17]), (23, .iconst 1, 1, []), (24, .goto 4, 3, [18]), (27, .iconst 0, 1, []), (28, .iadd, 1, []), (29, .istore_n 2, 1, []), (30, .iinc 3 1, 3, []), (33, .goto (-29), 3, [4]), (36, .iload_n 2, 1, []), (37, .ireturn, 1, [])]
def p_Mo_marked : zz_P := (245, ⟨"TurnQueuesModel", "marked", "(I)I"⟩, prog_14_method_68_code, 4, (some .int), q_Mo_marked)
set_option maxRecDepth 100000 in
theorem k_Mo_marked : zz_okP p_Mo_marked := ⟨by decide +kernel, zz_mem_r [1361, 1399] rfl (by decide +kernel)⟩
set_option maxRecDepth 100000 in
theorem o_Mo_marked : zz_okC p_Mo_marked false 12 2 := zz_okV (zz_mem_r (ws := [Cond.code p_Mo_marked.y p_Mo_marked.bytes p_Mo_marked.maxL p_Mo_marked.ret, Cond.initialized p_Mo_marked.y.cls, Cond.instanceMethod p_Mo_marked.y, Cond.selects p_Mo_marked.y.cls p_Mo_marked.y p_Mo_marked.y]) [1806, 109, 1805, 75] rfl (by decide +kernel)) rfl rfl (by decide +kernel) (by decide +kernel) rfl (by decide +kernel) rfl
def q_Mo_holds : List zz_C := [(0, .aload_n 0, 1, []), (1, .iload_n 1, 1, []), (2, .invokevirtual 311, 3, [216]), (5, .ifCond .ne 6, 3, [6]), (8, .bipush (-2), 2, []), (10, .ireturn, 1, []), (11, .aload_n 0, 1, []), (12, .invokevirtual 342, 3, [243]), (15, .aload_n 0, 1, []), (16, .iload_n 1, 1, []), (17, .iconst 1, 1, []), (18, .invokevirtual 345, 3, [244]), (21, .aload_n 0, 1, []), (22, .iconst 1, 1, []), (23, .invokevirtual 354, 3, [245]), (26, .ireturn, 1, [])]
def p_Mo_holds : zz_P := (246, ⟨"TurnQueuesModel", "holds", "(I)I"⟩, prog_14_method_69_code, 2, (some .int), q_Mo_holds)
set_option maxRecDepth 100000 in
theorem k_Mo_holds : zz_okP p_Mo_holds := ⟨by decide +kernel, zz_mem_r [1704, 1787, 1791, 1803] rfl (by decide +kernel)⟩
set_option maxRecDepth 100000 in
theorem o_Mo_holds : zz_okC p_Mo_holds false 12 2 := zz_okV (zz_mem_r (ws := [Cond.code p_Mo_holds.y p_Mo_holds.bytes p_Mo_holds.maxL p_Mo_holds.ret, Cond.initialized p_Mo_holds.y.cls, Cond.instanceMethod p_Mo_holds.y, Cond.selects p_Mo_holds.y.cls p_Mo_holds.y p_Mo_holds.y]) [1823, 109, 1821, 1822] rfl (by decide +kernel)) rfl rfl (by decide +kernel) (by decide +kernel) rfl (by decide +kernel) rfl
def q_Mo_shares : List zz_C := [(0, .aload_n 0, 1, []), (1, .iload_n 1, 1, []), (2, .invokevirtual 311, 3, [216]), (5, .ifCond .eq 11, 3, [8]), (8, .aload_n 0, 1, []), (9, .iload_n 2, 1, []), (10, .invokevirtual 311, 3, [216]), (13, .ifCond .ne 6, 3, [10]), (16, .bipush (-2), 2, []), (18, .ireturn, 1, []), (19, .aload_n 0, 1, []), (20, .invokevirtual 342, 3, [243]), (23, .aload_n 0, 1, []), (24, .iload_n 1, 1, []), (25, .iconst 1, 1, []), (26, .invokevirtual 345, 3, [244]), (29, .aload_n 0, 1, []), (30, .iload_n 2, 1, []), (31, .iconst 2, 1, []), (32, .invokevirtual 345, 3, [244]), (35, .aload_n 0, 1, []), (36, .iconst 3, 1, []), (37, .invokevirtual 354, 3, [245]), (40, .ireturn, 1, [])]
def p_Mo_shares : zz_P := (247, ⟨"TurnQueuesModel", "shares", "(II)I"⟩, prog_14_method_70_code, 3, (some .int), q_Mo_shares)
set_option maxRecDepth 100000 in
theorem k_Mo_shares : zz_okP p_Mo_shares := ⟨by decide +kernel, zz_mem_r [1704, 1704, 1787, 1791, 1791, 1803] rfl (by decide +kernel)⟩
set_option maxRecDepth 100000 in
theorem o_Mo_shares : zz_okC p_Mo_shares false 12 3 := zz_okV (zz_mem_r (ws := [Cond.code p_Mo_shares.y p_Mo_shares.bytes p_Mo_shares.maxL p_Mo_shares.ret, Cond.initialized p_Mo_shares.y.cls, Cond.instanceMethod p_Mo_shares.y, Cond.selects p_Mo_shares.y.cls p_Mo_shares.y p_Mo_shares.y]) [1827, 109, 1825, 1826] rfl (by decide +kernel)) rfl rfl (by decide +kernel) (by decide +kernel) rfl (by decide +kernel) rfl
def q_Mo_held : List zz_C := [(0, .aload_n 0, 1, []), (1, .invokevirtual 300, 3, [215]), (4, .ifCond .eq 19, 3, [13]), (7, .lload_n 1, 1, []), (8, .lconst 0, 1, []), (9, .lconst 1, 1, []), (10, .aload_n 0, 1, []), (11, .getfield 172, 3, [1215]), (14, .lshl, 1, []), (15, .lconst 1, 1, []), (16, .lsub, 1, []), (17, .invokestatic 195, 3, [180]), (20, .ifCond .ne 6, 3, [15]), (23, .bipush (-2), 2, []), (25, .ireturn, 1, []), (26, .aload_n 0, 1, []), (27, .invokevirtual 342, 3, [243]), (30, .iconst 0, 1, []), (31, .istore_n 3, 1, []), (32, .iload_n 3, 1, []), (33, .aload_n 0, 1, []), (34, .getfield 172, 3, [1215]), (37, .if_icmp .ge 25, 3, [37]), (40, .lload_n 1, 1, []), (41, .iload_n 3, 1, []), (42, .lshr, 1, []), (43, .lconst 1, 1, []), (44, .land, 1, []), (45, .lconst 1, 1, []), (46, .lcmp, 1, []), (47, .ifCond .ne 9, 3, [35]), (50, .aload_n 0, 1, []), (51, .iload_n 3, 1, []), (52, .iconst 1, 1, []), (53, .invokevirtual 345, 3, [244]), (56, .iinc 3 1, 3, []), (59, .goto (-27), 3, [19]), (62, .aload_n 0, 1, []), (63, .iconst 1, 1, []), (64, .invokevirtual 354, 3, [245]), (67, .ireturn, 1, [])]
def p_Mo_held : zz_P := (248, ⟨"TurnQueuesModel", "held", "(J)I"⟩, prog_14_method_71_code, 4, (some .int), q_Mo_held)
set_option maxRecDepth 100000 in
theorem k_Mo_held : zz_okP p_Mo_held := ⟨by decide +kernel, zz_mem_r [1692, 1373, 1541, 1787, 1373, 1791, 1803] rfl (by decide +kernel)⟩
set_option maxRecDepth 100000 in
theorem o_Mo_held : zz_okC p_Mo_held false 12 2 := zz_okV (zz_mem_r (ws := [Cond.code p_Mo_held.y p_Mo_held.bytes p_Mo_held.maxL p_Mo_held.ret, Cond.initialized p_Mo_held.y.cls, Cond.instanceMethod p_Mo_held.y, Cond.selects p_Mo_held.y.cls p_Mo_held.y p_Mo_held.y]) [1802, 109, 1800, 1801] rfl (by decide +kernel)) rfl rfl (by decide +kernel) (by decide +kernel) rfl (by decide +kernel) rfl
def q_Mo_made : List zz_C := [(0, .aload_n 0, 1, []), (1, .invokevirtual 300, 3, [215]), (4, .ifCond .eq 10, 3, [6]), (7, .aload_n 0, 1, []), (8, .getfield 94, 3, [1203]), (11, .goto 5, 3, [7]), (14, .bipush (-2), 2, []), (16, .ireturn, 1, [])]
def p_Mo_made : zz_P := (249, ⟨"TurnQueuesModel", "made", "()I"⟩, prog_14_method_72_code, 1, (some .int), q_Mo_made)
set_option maxRecDepth 100000 in
theorem k_Mo_made : zz_okP p_Mo_made := ⟨by decide +kernel, zz_mem_r [1692, 1361] rfl (by decide +kernel)⟩
set_option maxRecDepth 100000 in
theorem o_Mo_made : zz_okC p_Mo_made false 12 1 := zz_okV (zz_mem_r (ws := [Cond.code p_Mo_made.y p_Mo_made.bytes p_Mo_made.maxL p_Mo_made.ret, Cond.initialized p_Mo_made.y.cls, Cond.instanceMethod p_Mo_made.y, Cond.selects p_Mo_made.y.cls p_Mo_made.y p_Mo_made.y]) [1832, 109, 1830, 1831] rfl (by decide +kernel)) rfl rfl (by decide +kernel) (by decide +kernel) rfl (by decide +kernel) rfl
def q_Mo_spent : List zz_C := [(0, .aload_n 0, 1, []), (1, .invokevirtual 300, 3, [215]), (4, .ifCond .eq 30, 3, [20]), (7, .iload_n 1, 1, []), (8, .i2l, 1, []), (9, .lconst 0, 1, []), (10, .aload_n 0, 1, []), (11, .invokevirtual 308, 3, [217]), (14, .iconst 1, 1, []), (15, .isub, 1, []), (16, .i2l, 1, []), (17, .invokestatic 195, 3, [180]), (20, .ifCond .eq 14, 3, [20]), (23, .aload_n 0, 1, []), (24, .getfield 31, 3, [1219]), (27, .iload_n 1, 1, []), (28, .iconst 1, 1, []), (29, .iadd, 1, []), (30, .iaload, 1, []), (31, .goto 5, 3, [21]), (34, .bipush (-2), 2, []), (36, .ireturn, 1, [])]
def p_Mo_spent : zz_P := (250, ⟨"TurnQueuesModel", "spent", "(I)I"⟩, prog_14_method_73_code, 2, (some .int), q_Mo_spent)
set_option maxRecDepth 100000 in
theorem k_Mo_spent : zz_okP p_Mo_spent := ⟨by decide +kernel, zz_mem_r [1692, 1696, 1541, 1377] rfl (by decide +kernel)⟩
set_option maxRecDepth 100000 in
theorem o_Mo_spent : zz_okC p_Mo_spent false 12 2 := zz_okV (zz_mem_r (ws := [Cond.code p_Mo_spent.y p_Mo_spent.bytes p_Mo_spent.maxL p_Mo_spent.ret, Cond.initialized p_Mo_spent.y.cls, Cond.instanceMethod p_Mo_spent.y, Cond.selects p_Mo_spent.y.cls p_Mo_spent.y p_Mo_spent.y]) [1836, 109, 1834, 1835] rfl (by decide +kernel)) rfl rfl (by decide +kernel) (by decide +kernel) rfl (by decide +kernel) rfl
def q_Mo_ledger : List zz_C := [(0, .aload_n 0, 1, []), (1, .invokevirtual 300, 3, [215]), (4, .ifCond .ne 6, 3, [5]), (7, .bipush (-2), 2, []), (9, .ireturn, 1, []), (10, .iconst 0, 1, []), (11, .istore_n 1, 1, []), (12, .iconst 1, 1, []), (13, .istore_n 2, 1, []), (14, .iload_n 2, 1, []), (15, .aload_n 0, 1, []), (16, .getfield 172, 3, [1215]), (19, .if_icmp .ge 18, 3, [22]), (22, .iload_n 1, 1, []), (23, .aload_n 0, 1, []), (24, .getfield 31, 3, [1219]), (27, .iload_n 2, 1, []), (28, .iaload, 1, []), (29, .iadd, 1, []), (30, .istore_n 1, 1, []), (31, .iinc 2 1, 3, []), (34, .goto (-20), 3, [9]), (37, .iload_n 1, 1, []), (38, .ireturn, 1, [])]
def p_Mo_ledger : zz_P := (251, ⟨"TurnQueuesModel", "ledger", "()I"⟩, prog_14_method_74_code, 3, (some .int), q_Mo_ledger)
set_option maxRecDepth 100000 in
theorem k_Mo_ledger : zz_okP p_Mo_ledger := ⟨by decide +kernel, zz_mem_r [1692, 1373, 1377] rfl (by decide +kernel)⟩
set_option maxRecDepth 100000 in
theorem o_Mo_ledger : zz_okC p_Mo_ledger false 12 1 := zz_okV (zz_mem_r (ws := [Cond.code p_Mo_ledger.y p_Mo_ledger.bytes p_Mo_ledger.maxL p_Mo_ledger.ret, Cond.initialized p_Mo_ledger.y.cls, Cond.instanceMethod p_Mo_ledger.y, Cond.selects p_Mo_ledger.y.cls p_Mo_ledger.y p_Mo_ledger.y]) [1840, 109, 1838, 1839] rfl (by decide +kernel)) rfl rfl (by decide +kernel) (by decide +kernel) rfl (by decide +kernel) rfl
def q_Mo_dearest : List zz_C := [(0, .aload_n 0, 1, []), (1, .invokevirtual 300, 3, [215]), (4, .ifCond .ne 6, 3, [5]), (7, .bipush (-2), 2, []), (9, .ireturn, 1, []), (10, .iconst (-1), 1, []), (11, .istore_n 1, 1, []), (12, .iconst 1, 1, []), (13, .istore_n 2, 1, []), (14, .iload_n 2, 1, []), (15, .aload_n 0, 1, []), (16, .getfield 172, 3, [1215]), (19, .if_icmp .ge 35, 3, [33]), (22, .iload_n 1, 1, []), (23, .iconst (-1), 1, []), (24, .if_icmp .eq 20, 3, [27]), (27, .aload_n 0, 1, []), (28, .getfield 31, 3, [1219]), (31, .iload_n 2, 1, []), (32, .iaload, 1, []), (33, .aload_n 0, 1, []), (34, .getfield 31, 3, [1219]), (37, .iload_n 1, 1, []), (38, .iconst 1, 1, []), (39, .iadd, 1, []), (40, .iaload, 1, []), (41, .if_icmp .le 7, 3, [31]), (44, .iload_n 2, 1, []), (45, .iconst 1, 1, []), (46, .isub, 1, []), (47, .istore_n 1, 1, []), (48, .iinc 2 1, 3, []), (51, .goto (-37), 3, [9]), (54, .iload_n 1, 1, []), (55, .ireturn, 1, [])]
def p_Mo_dearest : zz_P := (252, ⟨"TurnQueuesModel", "dearest", "()I"⟩, prog_14_method_75_code, 3, (some .int), q_Mo_dearest)
set_option maxRecDepth 100000 in
theorem k_Mo_dearest : zz_okP p_Mo_dearest := ⟨by decide +kernel, zz_mem_r [1692, 1373, 1377, 1377] rfl (by decide +kernel)⟩
set_option maxRecDepth 100000 in
theorem o_Mo_dearest : zz_okC p_Mo_dearest false 12 1 := zz_okV (zz_mem_r (ws := [Cond.code p_Mo_dearest.y p_Mo_dearest.bytes p_Mo_dearest.maxL p_Mo_dearest.ret, Cond.initialized p_Mo_dearest.y.cls, Cond.instanceMethod p_Mo_dearest.y, Cond.selects p_Mo_dearest.y.cls p_Mo_dearest.y p_Mo_dearest.y]) [1844, 109, 1842, 1843] rfl (by decide +kernel)) rfl rfl (by decide +kernel) (by decide +kernel) rfl (by decide +kernel) rfl
def q_Mo_overdue : List zz_C := [(0, .aload_n 0, 1, []), (1, .invokevirtual 300, 3, [215]), (4, .ifCond .ne 6, 3, [5]), (7, .bipush (-2), 2, []), (9, .ireturn, 1, []), (10, .iconst 0, 1, []), (11, .istore_n 1, 1, []), (12, .iconst 1, 1, []), (13, .istore_n 2, 1, []), (14, .iload_n 2, 1, []), (15, .aload_n 0, 1, []), (16, .getfield 172, 3, [1215]), (19, .if_icmp .ge 26, 3, [26]), (22, .iload_n 1, 1, []), (23, .aload_n 0, 1, []), (24, .getfield 34, 3, [1220]), (27, .iload_n 2, 1, []), (28, .baload, 1, []), (29, .ifCond .eq 7, 3, [21]), (32, .iconst 1, 1, []), (33, .goto 4, 3, [22]), (36, .iconst 0, 1, []), (37, .iadd, 1, []), (38, .istore_n 1, 1, []), (39, .iinc 2 1, 3, []), (42, .goto (-28), 3, [9]), (45, .iload_n 1, 1, []), (46, .ireturn, 1, [])]
def p_Mo_overdue : zz_P := (253, ⟨"TurnQueuesModel", "overdue", "()I"⟩, prog_14_method_76_code, 3, (some .int), q_Mo_overdue)
set_option maxRecDepth 100000 in
theorem k_Mo_overdue : zz_okP p_Mo_overdue := ⟨by decide +kernel, zz_mem_r [1692, 1373, 1378] rfl (by decide +kernel)⟩
set_option maxRecDepth 100000 in
theorem o_Mo_overdue : zz_okC p_Mo_overdue false 12 1 := zz_okV (zz_mem_r (ws := [Cond.code p_Mo_overdue.y p_Mo_overdue.bytes p_Mo_overdue.maxL p_Mo_overdue.ret, Cond.initialized p_Mo_overdue.y.cls, Cond.instanceMethod p_Mo_overdue.y, Cond.selects p_Mo_overdue.y.cls p_Mo_overdue.y p_Mo_overdue.y]) [1848, 109, 1846, 1847] rfl (by decide +kernel)) rfl rfl (by decide +kernel) (by decide +kernel) rfl (by decide +kernel) rfl
def q_Mo_replays : List zz_C := [(0, .aload_n 0, 1, []), (1, .getfield 94, 3, [1203]), (4, .istore_n 3, 1, []), (5, .aload_n 0, 1, []), (6, .iload_n 1, 1, []), (7, .putfield 128, 3, [1205]), (10, .aload_n 0, 1, []), (11, .iload_n 2, 1, []), (12, .putfield 163, 3, [1206]), (15, .aload_n 0, 1, []), (16, .bipush 61, 2, []), (18, .invokevirtual 183, 3, [185]), (21, .iconst 0, 1, []), (22, .istore 4, 2, []), (24, .aload_n 0, 1, []), (25, .iconst 0, 1, []), (26, .putfield 357, 3, [1242]), (29, .iconst 1, 1, []), (30, .istore 5, 2, []), (32, .iload 5, 2, []), (34, .aload_n 0, 1, []), (35, .getfield 172, 3, [1215]), (38, .if_icmp .ge 64, 3, [55]), (41, .aload_n 0, 1, []), (42, .bipush 61, 2, []), (44, .aload_n 0, 1, []), (45, .getfield 22, 3, [1216]), (48, .iload 5, 2, []), (50, .iaload, 1, []), (51, .iadd, 1, []), (52, .bipush 61, 2, []), (54, .iload 5, 2, []), (56, .iadd, 1, []), (57, .aload_n 0, 1, []), (58, .getfield 25, 3, [1217]), (61, .iload 5, 2, []), (63, .iaload, 1, []), (64, .aload_n 0, 1, []), (65, .getfield 28, 3, [1218]), (68, .iload 5, 2, []), (70, .iaload, 1, []), (71, .invokevirtual 179, 3, [189]), (74, .istore 6, 2, []), (76, .iload 4, 2, []), (78, .iload 6, 2, []), (80, .iadd, 1, []), (81, .istore 4, 2, []), (83, .aload_n 0, 1, []), (84, .aload_n 0, 1, []), (85, .getfield 357, 3, [1242]), (88, .iload 6, 2, []), (90, .invokestatic 336, 3, [299]), (93, .putfield 357, 3, [1242]), (96, .iinc 5 1, 3, []), (99, .goto (-67), 3, [19]), (102, .aload_n 0, 1, []), (103, .aload_n 0, 1, []), (104, .getfield 186, 3, [1211]), (107, .putfield 128, 3, [1205]), (110, .aload_n 0, 1, []), (111, .aload_n 0, 1, []), (112, .getfield 189, 3, [1212]), (115, .putfield 163, 3, [1206]), (118, .aload_n 0, 1, []), (119, .iload_n 3, 1, []), (120, .putfield 94, 3, [1203]), (123, .iload 4, 2, []), (125, .ireturn, 1, [])]
def p_Mo_replays : zz_P := (254, ⟨"TurnQueuesModel", "replays", "(II)I"⟩, prog_14_method_77_code, 7, (some .int), q_Mo_replays)
set_option maxRecDepth 100000 in
theorem k_Mo_replays : zz_okP p_Mo_replays := ⟨by decide +kernel, zz_mem_r [1361, 1363, 1364, 1607, 1400, 1373, 1374, 1375, 1376, 1627, 1400, 1774, 1400, 1369, 1363, 1370, 1364, 1361] rfl (by decide +kernel)⟩
set_option maxRecDepth 100000 in
theorem o_Mo_replays : zz_okC p_Mo_replays false 12 3 := zz_okV (zz_mem_r (ws := [Cond.code p_Mo_replays.y p_Mo_replays.bytes p_Mo_replays.maxL p_Mo_replays.ret, Cond.initialized p_Mo_replays.y.cls, Cond.instanceMethod p_Mo_replays.y, Cond.selects p_Mo_replays.y.cls p_Mo_replays.y p_Mo_replays.y]) [1864, 109, 1863, 78] rfl (by decide +kernel)) rfl rfl (by decide +kernel) (by decide +kernel) rfl (by decide +kernel) rfl
def q_Mo_isTwoSided : List zz_C := [(0, .iconst 0, 1, []), (1, .istore_n 1, 1, []), (2, .iconst 1, 1, []), (3, .istore_n 2, 1, []), (4, .iload_n 2, 1, []), (5, .aload_n 0, 1, []), (6, .getfield 172, 3, [1215]), (9, .if_icmp .ge 29, 3, [22]), (12, .iload_n 1, 1, []), (13, .ifCond .ne 13, 3, [16]), (16, .aload_n 0, 1, []), (17, .getfield 25, 3, [1217]), (20, .iload_n 2, 1, []), (21, .iaload, 1, []), (22, .iconst 2, 1, []), (23, .if_icmp .lt 7, 3, [18]), (26, .iconst 1, 1, []), (27, .goto 4, 3, [19]), (30, .iconst 0, 1, []), (31, .istore_n 1, 1, []), (32, .iinc 2 1, 3, []), (35, .goto (-31), 3, [4]), (38, .iload_n 1, 1, []), (39, .ireturn, 1, [])]
def p_Mo_isTwoSided : zz_P := (255, ⟨"TurnQueuesModel", "isTwoSided", "()Z"⟩, prog_14_method_78_code, 3, (some .boolean), q_Mo_isTwoSided)
set_option maxRecDepth 100000 in
theorem k_Mo_isTwoSided : zz_okP p_Mo_isTwoSided := ⟨by decide +kernel, zz_mem_r [1373, 1375] rfl (by decide +kernel)⟩
set_option maxRecDepth 100000 in
theorem o_Mo_isTwoSided : zz_okC p_Mo_isTwoSided false 12 1 := zz_okV (zz_mem_r (ws := [Cond.code p_Mo_isTwoSided.y p_Mo_isTwoSided.bytes p_Mo_isTwoSided.maxL p_Mo_isTwoSided.ret, Cond.initialized p_Mo_isTwoSided.y.cls, Cond.instanceMethod p_Mo_isTwoSided.y, Cond.selects p_Mo_isTwoSided.y.cls p_Mo_isTwoSided.y p_Mo_isTwoSided.y]) [1860, 109, 1859, 77] rfl (by decide +kernel)) rfl rfl (by decide +kernel) (by decide +kernel) rfl (by decide +kernel) rfl
def q_Mo_asksLaw : List zz_C := [(0, .aload_n 0, 1, []), (1, .invokevirtual 300, 3, [215]), (4, .ifCond .eq 15, 3, [9]), (7, .iload_n 1, 1, []), (8, .i2l, 1, []), (9, .lconst 0, 1, []), (10, .ldc2_w 315, 3, [2]), (13, .invokestatic 195, 3, [180]), (16, .ifCond .ne 6, 3, [11]), (19, .bipush (-2), 2, []), (21, .ireturn, 1, []), (22, .iload_n 1, 1, []), (23, .iconst 2, 1, []), (24, .if_icmp .ge 14, 3, [19]), (27, .aload_n 0, 1, []), (28, .invokevirtual 360, 3, [255]), (31, .ifCond .eq 7, 3, [19]), (34, .iconst (-1), 1, []), (35, .goto 4, 3, [20]), (38, .iconst 0, 1, []), (39, .ireturn, 1, [])]
def p_Mo_asksLaw : zz_P := (256, ⟨"TurnQueuesModel", "asksLaw", "(I)I"⟩, prog_14_method_79_code, 2, (some .int), q_Mo_asksLaw)
set_option maxRecDepth 100000 in
theorem k_Mo_asksLaw : zz_okP p_Mo_asksLaw := ⟨by decide +kernel, zz_mem_r [1692, 1708, 1541, 1857] rfl (by decide +kernel)⟩
set_option maxRecDepth 100000 in
theorem o_Mo_asksLaw : zz_okC p_Mo_asksLaw false 12 2 := zz_okV (zz_mem_r (ws := [Cond.code p_Mo_asksLaw.y p_Mo_asksLaw.bytes p_Mo_asksLaw.maxL p_Mo_asksLaw.ret, Cond.initialized p_Mo_asksLaw.y.cls, Cond.instanceMethod p_Mo_asksLaw.y, Cond.selects p_Mo_asksLaw.y.cls p_Mo_asksLaw.y p_Mo_asksLaw.y]) [1856, 109, 1855, 76] rfl (by decide +kernel)) rfl rfl (by decide +kernel) (by decide +kernel) rfl (by decide +kernel) rfl
def q_Mo_by : List zz_C := [(0, .aload_n 0, 1, []), (1, .iload_n 1, 1, []), (2, .invokevirtual 363, 3, [256]), (5, .istore_n 2, 1, []), (6, .iload_n 2, 1, []), (7, .ifCond .ge 7, 3, [8]), (10, .iload_n 2, 1, []), (11, .goto 12, 3, [13]), (14, .aload_n 0, 1, []), (15, .iload_n 1, 1, []), (16, .aload_n 0, 1, []), (17, .getfield 189, 3, [1212]), (20, .invokevirtual 366, 3, [254]), (23, .ireturn, 1, [])]
def p_Mo_by : zz_P := (257, ⟨"TurnQueuesModel", "by", "(I)I"⟩, prog_14_method_80_code, 3, (some .int), q_Mo_by)
set_option maxRecDepth 100000 in
theorem k_Mo_by : zz_okP p_Mo_by := ⟨by decide +kernel, zz_mem_r [1853, 1370, 1861] rfl (by decide +kernel)⟩
set_option maxRecDepth 100000 in
theorem o_Mo_by : zz_okC p_Mo_by false 12 2 := zz_okV (zz_mem_r (ws := [Cond.code p_Mo_by.y p_Mo_by.bytes p_Mo_by.maxL p_Mo_by.ret, Cond.initialized p_Mo_by.y.cls, Cond.instanceMethod p_Mo_by.y, Cond.selects p_Mo_by.y.cls p_Mo_by.y p_Mo_by.y]) [1852, 109, 1850, 1851] rfl (by decide +kernel)) rfl rfl (by decide +kernel) (by decide +kernel) rfl (by decide +kernel) rfl
def q_Mo_peak : List zz_C := [(0, .aload_n 0, 1, []), (1, .iload_n 1, 1, []), (2, .invokevirtual 363, 3, [256]), (5, .istore_n 2, 1, []), (6, .iload_n 2, 1, []), (7, .ifCond .ge 5, 3, [8]), (10, .iload_n 2, 1, []), (11, .ireturn, 1, []), (12, .aload_n 0, 1, []), (13, .iload_n 1, 1, []), (14, .aload_n 0, 1, []), (15, .getfield 189, 3, [1212]), (18, .invokevirtual 366, 3, [254]), (21, .istore_n 3, 1, []), (22, .iload_n 3, 1, []), (23, .ifCond .ge 7, 3, [18]), (26, .iconst (-1), 1, []), (27, .goto 7, 3, [20]), (30, .aload_n 0, 1, []), (31, .getfield 357, 3, [1242]), (34, .ireturn, 1, [])]
def p_Mo_peak : zz_P := (258, ⟨"TurnQueuesModel", "peak", "(I)I"⟩, prog_14_method_81_code, 4, (some .int), q_Mo_peak)
set_option maxRecDepth 100000 in
theorem k_Mo_peak : zz_okP p_Mo_peak := ⟨by decide +kernel, zz_mem_r [1853, 1370, 1861, 1400] rfl (by decide +kernel)⟩
set_option maxRecDepth 100000 in
theorem o_Mo_peak : zz_okC p_Mo_peak false 12 2 := zz_okV (zz_mem_r (ws := [Cond.code p_Mo_peak.y p_Mo_peak.bytes p_Mo_peak.maxL p_Mo_peak.ret, Cond.initialized p_Mo_peak.y.cls, Cond.instanceMethod p_Mo_peak.y, Cond.selects p_Mo_peak.y.cls p_Mo_peak.y p_Mo_peak.y]) [1868, 109, 1866, 1867] rfl (by decide +kernel)) rfl rfl (by decide +kernel) (by decide +kernel) rfl (by decide +kernel) rfl
def q_Mo_balanced : List zz_C := [(0, .aload_n 0, 1, []), (1, .invokevirtual 300, 3, [215]), (4, .ifCond .eq 26, 3, [14]), (7, .iload_n 1, 1, []), (8, .i2l, 1, []), (9, .ldc2_w 315, 3, [2]), (12, .ldc2_w 352, 3, [4]), (15, .invokestatic 195, 3, [180]), (18, .ifCond .eq 12, 3, [14]), (21, .aload_n 0, 1, []), (22, .iconst 2, 1, []), (23, .iload_n 1, 1, []), (24, .invokevirtual 366, 3, [254]), (27, .goto 5, 3, [15]), (30, .bipush (-2), 2, []), (32, .ireturn, 1, [])]
def p_Mo_balanced : zz_P := (259, ⟨"TurnQueuesModel", "balanced", "(I)I"⟩, prog_14_method_82_code, 2, (some .int), q_Mo_balanced)
set_option maxRecDepth 100000 in
theorem k_Mo_balanced : zz_okP p_Mo_balanced := ⟨by decide +kernel, zz_mem_r [1692, 1708, 1811, 1541, 1861] rfl (by decide +kernel)⟩
set_option maxRecDepth 100000 in
theorem o_Mo_balanced : zz_okC p_Mo_balanced false 12 2 := zz_okV (zz_mem_r (ws := [Cond.code p_Mo_balanced.y p_Mo_balanced.bytes p_Mo_balanced.maxL p_Mo_balanced.ret, Cond.initialized p_Mo_balanced.y.cls, Cond.instanceMethod p_Mo_balanced.y, Cond.selects p_Mo_balanced.y.cls p_Mo_balanced.y p_Mo_balanced.y]) [1872, 109, 1870, 1871] rfl (by decide +kernel)) rfl rfl (by decide +kernel) (by decide +kernel) rfl (by decide +kernel) rfl
end
section
/-! the code of the methods, printed by program -/
def q_Mo_balance : List zz_C := [(0, .aload_n 0, 1, []), (1, .invokevirtual 300, 3, [215]), (4, .ifCond .ne 6, 3, [5]), (7, .bipush (-2), 2, []), (9, .ireturn, 1, []), (10, .iconst 2, 1, []), (11, .istore_n 1, 1, []), (12, .iconst 3, 1, []), (13, .istore_n 2, 1, []), (14, .iload_n 2, 1, []), (15, .iconst 5, 1, []), (16, .if_icmp .ge 26, 3, [25]), (19, .aload_n 0, 1, []), (20, .iconst 2, 1, []), (21, .iload_n 2, 1, []), (22, .invokevirtual 366, 3, [254]), (25, .aload_n 0, 1, []), (26, .iconst 2, 1, []), (27, .iload_n 1, 1, []), (28, .invokevirtual 366, 3, [254]), (31, .if_icmp .ge 5, 3, [23]), (34, .iload_n 2, 1, []), (35, .istore_n 1, 1, []), (36, .iinc 2 1, 3, []), (39, .goto (-25), 3, [9]), (42, .iload_n 1, 1, []), (43, .ireturn, 1, [])]
def p_Mo_balance : zz_P := (260, ⟨"TurnQueuesModel", "balance", "()I"⟩, prog_14_method_83_code, 3, (some .int), q_Mo_balance)
set_option maxRecDepth 100000 in
theorem k_Mo_balance : zz_okP p_Mo_balance := ⟨by decide +kernel, zz_mem_r [1692, 1861, 1861] rfl (by decide +kernel)⟩
set_option maxRecDepth 100000 in
theorem o_Mo_balance : zz_okC p_Mo_balance false 12 1 := zz_okV (zz_mem_r (ws := [Cond.code p_Mo_balance.y p_Mo_balance.bytes p_Mo_balance.maxL p_Mo_balance.ret, Cond.initialized p_Mo_balance.y.cls, Cond.instanceMethod p_Mo_balance.y, Cond.selects p_Mo_balance.y.cls p_Mo_balance.y p_Mo_balance.y]) [1876, 109, 1874, 1875] rfl (by decide +kernel)) rfl rfl (by decide +kernel) (by decide +kernel) rfl (by decide +kernel) rfl
def q_Mo_until : List zz_C := [(0, .aload_n 0, 1, []), (1, .iload_n 1, 1, []), (2, .invokevirtual 311, 3, [216]), (5, .ifCond .ne 6, 3, [6]), (8, .bipush (-2), 2, []), (10, .ireturn, 1, []), (11, .aload_n 0, 1, []), (12, .getfield 94, 3, [1203]), (15, .istore_n 2, 1, []), (16, .iconst (-1), 1, []), (17, .istore_n 3, 1, []), (18, .aload_n 0, 1, []), (19, .iload_n 1, 1, []), (20, .bipush 122, 2, []), (22, .invokevirtual 108, 3, [186]), (25, .iconst 1, 1, []), (26, .istore 4, 2, []), (28, .iload 4, 2, []), (30, .bipush 40, 2, []), (32, .if_icmp .gt 43, 3, [41]), (35, .iload_n 3, 1, []), (36, .iconst (-1), 1, []), (37, .if_icmp .ne 38, 3, [41]), (40, .aload_n 0, 1, []), (41, .bipush 122, 2, []), (43, .bipush 123, 2, []), (45, .iconst 0, 1, []), (46, .iconst 0, 1, []), (47, .invokevirtual 179, 3, [189]), (50, .pop, 1, []), (51, .aload_n 0, 1, []), (52, .bipush 123, 2, []), (54, .bipush 122, 2, []), (56, .invokevirtual 108, 3, [186]), (59, .aload_n 0, 1, []), (60, .getfield 115, 3, [1208]), (63, .ifCond .eq 6, 3, [39]), (66, .iload 4, 2, []), (68, .istore_n 3, 1, []), (69, .iinc 4 1, 3, []), (72, .goto (-44), 3, [17]), (75, .aload_n 0, 1, []), (76, .iload_n 2, 1, []), (77, .putfield 94, 3, [1203]), (80, .iload_n 3, 1, []), (81, .ireturn, 1, [])]
def p_Mo_until : zz_P := (261, ⟨"TurnQueuesModel", "until", "(I)I"⟩, prog_14_method_84_code, 5, (some .int), q_Mo_until)
set_option maxRecDepth 100000 in
theorem k_Mo_until : zz_okP p_Mo_until := ⟨by decide +kernel, zz_mem_r [1704, 1361, 1631, 1627, 1631, 1366, 1361] rfl (by decide +kernel)⟩
set_option maxRecDepth 100000 in
theorem o_Mo_until : zz_okC p_Mo_until false 12 2 := zz_okV (zz_mem_r (ws := [Cond.code p_Mo_until.y p_Mo_until.bytes p_Mo_until.maxL p_Mo_until.ret, Cond.initialized p_Mo_until.y.cls, Cond.instanceMethod p_Mo_until.y, Cond.selects p_Mo_until.y.cls p_Mo_until.y p_Mo_until.y]) [1880, 109, 1878, 1879] rfl (by decide +kernel)) rfl rfl (by decide +kernel) (by decide +kernel) rfl (by decide +kernel) rfl
def q_Mo_isAtRest : List zz_C := [(0, .aload_n 0, 1, []), (1, .iload_n 1, 1, []), (2, .bipush 7, 2, []), (4, .invokevirtual 101, 3, [183]), (7, .ifCond .ne 27, 3, [17]), (10, .aload_n 0, 1, []), (11, .iload_n 1, 1, []), (12, .bipush 9, 2, []), (14, .invokevirtual 101, 3, [183]), (17, .ifCond .ne 17, 3, [17]), (20, .aload_n 0, 1, []), (21, .iload_n 1, 1, []), (22, .bipush 10, 2, []), (24, .invokevirtual 101, 3, [183]), (27, .ifCond .ne 7, 3, [17]), (30, .iconst 1, 1, []), (31, .goto 4, 3, [18]), (34, .iconst 0, 1, []), (35, .ireturn, 1, [])]
def p_Mo_isAtRest : zz_P := (262, ⟨"TurnQueuesModel", "isAtRest", "(I)Z"⟩, prog_14_method_85_code, 2, (some .boolean), q_Mo_isAtRest)
set_option maxRecDepth 100000 in
theorem k_Mo_isAtRest : zz_okP p_Mo_isAtRest := ⟨by decide +kernel, zz_mem_r [1635, 1635, 1635] rfl (by decide +kernel)⟩
set_option maxRecDepth 100000 in
theorem o_Mo_isAtRest : zz_okC p_Mo_isAtRest false 12 2 := zz_okV (zz_mem_r (ws := [Cond.code p_Mo_isAtRest.y p_Mo_isAtRest.bytes p_Mo_isAtRest.maxL p_Mo_isAtRest.ret, Cond.initialized p_Mo_isAtRest.y.cls, Cond.instanceMethod p_Mo_isAtRest.y, Cond.selects p_Mo_isAtRest.y.cls p_Mo_isAtRest.y p_Mo_isAtRest.y]) [1888, 109, 1887, 79] rfl (by decide +kernel)) rfl rfl (by decide +kernel) (by decide +kernel) rfl (by decide +kernel) rfl
def q_Mo_rest : List zz_C := [(0, .aload_n 0, 1, []), (1, .iload_n 1, 1, []), (2, .invokevirtual 311, 3, [216]), (5, .ifCond .ne 6, 3, [6]), (8, .bipush (-2), 2, []), (10, .ireturn, 1, []), (11, .aload_n 0, 1, []), (12, .getfield 94, 3, [1203]), (15, .istore_n 2, 1, []), (16, .aload_n 0, 1, []), (17, .iload_n 1, 1, []), (18, .bipush 122, 2, []), (20, .invokevirtual 108, 3, [186]), (23, .iconst 0, 1, []), (24, .istore_n 3, 1, []), (25, .iload_n 3, 1, []), (26, .bipush 40, 2, []), (28, .if_icmp .ge 37, 3, [35]), (31, .aload_n 0, 1, []), (32, .bipush 122, 2, []), (34, .invokevirtual 369, 3, [262]), (37, .ifCond .ne 28, 3, [35]), (40, .aload_n 0, 1, []), (41, .bipush 122, 2, []), (43, .bipush 123, 2, []), (45, .iconst 0, 1, []), (46, .iconst 0, 1, []), (47, .invokevirtual 179, 3, [189]), (50, .pop, 1, []), (51, .aload_n 0, 1, []), (52, .bipush 123, 2, []), (54, .bipush 122, 2, []), (56, .invokevirtual 108, 3, [186]), (59, .iinc 3 1, 3, []), (62, .goto (-37), 3, [15]), (65, .aload_n 0, 1, []), (66, .bipush 122, 2, []), (68, .invokevirtual 369, 3, [262]), (71, .istore 4, 2, []), (73, .aload_n 0, 1, []), (74, .iload_n 2, 1, []), (75, .putfield 94, 3, [1203]), (78, .iload 4, 2, []), (80, .ifCond .eq 7, 3, [46]), (83, .iload_n 3, 1, []), (84, .goto 4, 3, [47]), (87, .iconst (-1), 1, []), (88, .ireturn, 1, [])]
def p_Mo_rest : zz_P := (263, ⟨"TurnQueuesModel", "rest", "(I)I"⟩, prog_14_method_86_code, 5, (some .int), q_Mo_rest)
set_option maxRecDepth 100000 in
theorem k_Mo_rest : zz_okP p_Mo_rest := ⟨by decide +kernel, zz_mem_r [1704, 1361, 1631, 1885, 1627, 1631, 1885, 1361] rfl (by decide +kernel)⟩
set_option maxRecDepth 100000 in
theorem o_Mo_rest : zz_okC p_Mo_rest false 12 2 := zz_okV (zz_mem_r (ws := [Cond.code p_Mo_rest.y p_Mo_rest.bytes p_Mo_rest.maxL p_Mo_rest.ret, Cond.initialized p_Mo_rest.y.cls, Cond.instanceMethod p_Mo_rest.y, Cond.selects p_Mo_rest.y.cls p_Mo_rest.y p_Mo_rest.y]) [1884, 109, 1882, 1883] rfl (by decide +kernel)) rfl rfl (by decide +kernel) (by decide +kernel) rfl (by decide +kernel) rfl
def q_Mo_goes : List zz_C := [(0, .iload_n 2, 1, []), (1, .ifCond .ne 58, 3, [32]), (4, .aload_n 0, 1, []), (5, .dup, 1, []), (6, .getfield 372, 3, [1245]), (9, .iconst 1, 1, []), (10, .iadd, 1, []), (11, .putfield 372, 3, [1245]), (14, .iload_n 3, 1, []), (15, .aload_n 0, 1, []), (16, .getfield 375, 3, [1244]), (19, .if_icmp .gt 4, 3, [13]), (22, .return_, 1, []), (23, .aload_n 0, 1, []), (24, .iload_n 3, 1, []), (25, .putfield 375, 3, [1244]), (28, .iconst 0, 1, []), (29, .istore 4, 2, []), (31, .iload 4, 2, []), (33, .bipush 6, 2, []), (35, .if_icmp .ge 23, 3, [31]), (38, .aload_n 0, 1, []), (39, .getfield 76, 3, [1249]), (42, .iload 4, 2, []), (44, .aload_n 0, 1, []), (45, .getfield 73, 3, [1248]), (48, .iload 4, 2, []), (50, .iaload, 1, []), (51, .iastore, 1, []), (52, .iinc 4 1, 3, []), (55, .goto (-24), 3, [18]), (58, .return_, 1, []), (59, .sipush 132, 3, []), (62, .iload_n 2, 1, []), (63, .isub, 1, []), (64, .istore 4, 2, []), (66, .iconst 0, 1, []), (67, .istore 5, 2, []), (69, .iload 5, 2, []), (71, .iconst 1, 1, []), (72, .if_icmp .gt 109, 3, [97]), (75, .iload 5, 2, []), (77, .iconst 1, 1, []), (78, .if_icmp .ne 16, 3, [50]), (81, .aload_n 0, 1, []), (82, .iload_n 1, 1, []), (83, .bipush 11, 2, []), (85, .invokevirtual 101, 3, [183]), (88, .ifCond .ne 6, 3, [50]), (91, .goto 84, 3, [95]), (94, .aload_n 0, 1, []), (95, .getfield 94, 3, [1203]), (98, .istore 6, 2, []), (100, .aload_n 0, 1, []), (101, .iload_n 1, 1, []), (102, .iload 4, 2, []), (104, .iload 5, 2, []), (106, .iconst 0, 1, []), (107, .invokevirtual 179, 3, [189]), (110, .istore 7, 2, []), (112, .aload_n 0, 1, []), (113, .getfield 73, 3, [1248]), (116, .aload_n 0, 1, []), (117, .getfield 378, 3, [1247]), (120, .iload_n 2, 1, []), (121, .isub, 1, []), (122, .iload 5, 2, []), (124, .iastore, 1, []), (125, .iload_n 2, 1, []), (126, .iconst 1, 1, []), (127, .if_icmp .ne 16, 3, [77]), (130, .aload_n 0, 1, []), (131, .aload_n 0, 1, []), (132, .getfield 381, 3, [1246]), (135, .iload 7, 2, []), (137, .invokestatic 336, 3, [299]), (140, .putfield 381, 3, [1246]), (143, .aload_n 0, 1, []), (144, .aload_n 0, 1, []), (145, .getfield 384, 3, [1243]), (148, .iload 7, 2, []), (150, .invokestatic 336, 3, [299]), (153, .putfield 384, 3, [1243]), (156, .aload_n 0, 1, []), (157, .iload 4, 2, []), (159, .iload_n 2, 1, []), (160, .iconst 1, 1, []), (161, .isub, 1, []), (162, .iload_n 3, 1, []), (163, .iload 7, 2, []), (165, .iadd, 1, []), (166, .invokevirtual 387, 3, [264]), (169, .aload_n 0, 1, []), (170, .iload 6, 2, []), (172, .putfield 94, 3, [1203]), (175, .iinc 5 1, 3, []), (178, .goto (-109), 3, [38]), (181, .return_, 1, [])]
def p_Mo_goes : zz_P := (264, ⟨"TurnQueuesModel", "goes", "(III)V"⟩, prog_14_method_87_code, 8, none, q_Mo_goes)
set_option maxRecDepth 100000 in
theorem k_Mo_goes : zz_okP p_Mo_goes := ⟨by decide +kernel, zz_mem_r [1403, 1403, 1402, 1402, 1407, 1406, 1635, 1361, 1627, 1406, 1405, 1404, 1774, 1404, 1401, 1774, 1401, 1898, 1361] rfl (by decide +kernel)⟩
set_option maxRecDepth 100000 in
theorem o_Mo_goes : zz_okC p_Mo_goes false 12 4 := zz_okV (zz_mem_r (ws := [Cond.code p_Mo_goes.y p_Mo_goes.bytes p_Mo_goes.maxL p_Mo_goes.ret, Cond.initialized p_Mo_goes.y.cls, Cond.instanceMethod p_Mo_goes.y, Cond.selects p_Mo_goes.y.cls p_Mo_goes.y p_Mo_goes.y]) [1901, 109, 1900, 81] rfl (by decide +kernel)) rfl rfl (by decide +kernel) (by decide +kernel) rfl (by decide +kernel) rfl
def q_Mo_goesAll : List zz_C := [(0, .aload_n 0, 1, []), (1, .iconst 0, 1, []), (2, .putfield 384, 3, [1243]), (5, .aload_n 0, 1, []), (6, .iconst 0, 1, []), (7, .putfield 375, 3, [1244]), (10, .aload_n 0, 1, []), (11, .iconst 0, 1, []), (12, .putfield 381, 3, [1246]), (15, .aload_n 0, 1, []), (16, .iconst 0, 1, []), (17, .putfield 372, 3, [1245]), (20, .aload_n 0, 1, []), (21, .iload_n 2, 1, []), (22, .putfield 378, 3, [1247]), (25, .aload_n 0, 1, []), (26, .iload_n 1, 1, []), (27, .iload_n 2, 1, []), (28, .iconst 0, 1, []), (29, .invokevirtual 387, 3, [264]), (32, .return_, 1, [])]
def p_Mo_goesAll : zz_P := (265, ⟨"TurnQueuesModel", "goesAll", "(II)V"⟩, prog_14_method_88_code, 3, none, q_Mo_goesAll)
set_option maxRecDepth 100000 in
theorem k_Mo_goesAll : zz_okP p_Mo_goesAll := ⟨by decide +kernel, zz_mem_r [1401, 1402, 1404, 1403, 1405, 1898] rfl (by decide +kernel)⟩
set_option maxRecDepth 100000 in
theorem o_Mo_goesAll : zz_okC p_Mo_goesAll false 12 3 := zz_okV (zz_mem_r (ws := [Cond.code p_Mo_goesAll.y p_Mo_goesAll.bytes p_Mo_goesAll.maxL p_Mo_goesAll.ret, Cond.initialized p_Mo_goesAll.y.cls, Cond.instanceMethod p_Mo_goesAll.y, Cond.selects p_Mo_goesAll.y.cls p_Mo_goesAll.y p_Mo_goesAll.y]) [1897, 109, 1896, 80] rfl (by decide +kernel)) rfl rfl (by decide +kernel) (by decide +kernel) rfl (by decide +kernel) rfl
def q_Mo_worstAt : List zz_C := [(0, .aload_n 0, 1, []), (1, .iload_n 1, 1, []), (2, .invokevirtual 311, 3, [216]), (5, .ifCond .eq 19, 3, [12]), (8, .iload_n 2, 1, []), (9, .i2l, 1, []), (10, .lconst 1, 1, []), (11, .ldc2_w 390, 3, [6]), (14, .invokestatic 195, 3, [180]), (17, .ifCond .eq 7, 3, [12]), (20, .iload_n 3, 1, []), (21, .ifCond .ge 6, 3, [14]), (24, .bipush (-2), 2, []), (26, .ireturn, 1, []), (27, .aload_n 0, 1, []), (28, .iload_n 1, 1, []), (29, .iload_n 2, 1, []), (30, .invokevirtual 392, 3, [265]), (33, .iload_n 3, 1, []), (34, .iload_n 2, 1, []), (35, .if_icmp .ge 12, 3, [26]), (38, .aload_n 0, 1, []), (39, .getfield 76, 3, [1249]), (42, .iload_n 3, 1, []), (43, .iaload, 1, []), (44, .goto 4, 3, [27]), (47, .iconst (-1), 1, []), (48, .ireturn, 1, [])]
def p_Mo_worstAt : zz_P := (266, ⟨"TurnQueuesModel", "worstAt", "(III)I"⟩, prog_14_method_89_code, 4, (some .int), q_Mo_worstAt)
set_option maxRecDepth 100000 in
theorem k_Mo_worstAt : zz_okP p_Mo_worstAt := ⟨by decide +kernel, zz_mem_r [1704, 1893, 1541, 1894, 1407] rfl (by decide +kernel)⟩
set_option maxRecDepth 100000 in
theorem o_Mo_worstAt : zz_okC p_Mo_worstAt false 12 4 := zz_okV (zz_mem_r (ws := [Cond.code p_Mo_worstAt.y p_Mo_worstAt.bytes p_Mo_worstAt.maxL p_Mo_worstAt.ret, Cond.initialized p_Mo_worstAt.y.cls, Cond.instanceMethod p_Mo_worstAt.y, Cond.selects p_Mo_worstAt.y.cls p_Mo_worstAt.y p_Mo_worstAt.y]) [1892, 109, 1890, 1891] rfl (by decide +kernel)) rfl rfl (by decide +kernel) (by decide +kernel) rfl (by decide +kernel) rfl
def q_Mo_spike : List zz_C := [(0, .aload_n 0, 1, []), (1, .iload_n 1, 1, []), (2, .invokevirtual 311, 3, [216]), (5, .ifCond .eq 8, 3, [7]), (8, .iload_n 2, 1, []), (9, .iconst 1, 1, []), (10, .if_icmp .ge 6, 3, [9]), (13, .bipush (-2), 2, []), (15, .ireturn, 1, []), (16, .iconst 1, 1, []), (17, .istore_n 3, 1, []), (18, .iload_n 3, 1, []), (19, .bipush 7, 2, []), (21, .if_icmp .ge 25, 3, [26]), (24, .aload_n 0, 1, []), (25, .iload_n 1, 1, []), (26, .iload_n 3, 1, []), (27, .invokevirtual 392, 3, [265]), (30, .aload_n 0, 1, []), (31, .getfield 381, 3, [1246]), (34, .iload_n 2, 1, []), (35, .if_icmp .lt 5, 3, [24]), (38, .iload_n 3, 1, []), (39, .ireturn, 1, []), (40, .iinc 3 1, 3, []), (43, .goto (-25), 3, [11]), (46, .iconst (-1), 1, []), (47, .ireturn, 1, [])]
def p_Mo_spike : zz_P := (267, ⟨"TurnQueuesModel", "spike", "(II)I"⟩, prog_14_method_90_code, 4, (some .int), q_Mo_spike)
set_option maxRecDepth 100000 in
theorem k_Mo_spike : zz_okP p_Mo_spike := ⟨by decide +kernel, zz_mem_r [1704, 1894, 1404] rfl (by decide +kernel)⟩
set_option maxRecDepth 100000 in
theorem o_Mo_spike : zz_okC p_Mo_spike false 12 3 := zz_okV (zz_mem_r (ws := [Cond.code p_Mo_spike.y p_Mo_spike.bytes p_Mo_spike.maxL p_Mo_spike.ret, Cond.initialized p_Mo_spike.y.cls, Cond.instanceMethod p_Mo_spike.y, Cond.selects p_Mo_spike.y.cls p_Mo_spike.y p_Mo_spike.y]) [1905, 109, 1903, 1904] rfl (by decide +kernel)) rfl rfl (by decide +kernel) (by decide +kernel) rfl (by decide +kernel) rfl
def q_Mo_worst : List zz_C := [(0, .aload_n 0, 1, []), (1, .iload_n 1, 1, []), (2, .invokevirtual 311, 3, [216]), (5, .ifCond .eq 27, 3, [16]), (8, .iload_n 2, 1, []), (9, .i2l, 1, []), (10, .lconst 1, 1, []), (11, .ldc2_w 390, 3, [6]), (14, .invokestatic 195, 3, [180]), (17, .ifCond .eq 15, 3, [16]), (20, .iload_n 3, 1, []), (21, .i2l, 1, []), (22, .lconst 0, 1, []), (23, .ldc2_w 315, 3, [2]), (26, .invokestatic 195, 3, [180]), (29, .ifCond .ne 6, 3, [18]), (32, .bipush (-2), 2, []), (34, .ireturn, 1, []), (35, .aload_n 0, 1, []), (36, .iload_n 1, 1, []), (37, .iload_n 2, 1, []), (38, .invokevirtual 392, 3, [265]), (41, .iload_n 3, 1, []), (42, .ifCond .ne 10, 3, [27]), (45, .aload_n 0, 1, []), (46, .getfield 384, 3, [1243]), (49, .goto 19, 3, [35]), (52, .iload_n 3, 1, []), (53, .iconst 1, 1, []), (54, .if_icmp .ne 10, 3, [33]), (57, .aload_n 0, 1, []), (58, .getfield 375, 3, [1244]), (61, .goto 7, 3, [35]), (64, .aload_n 0, 1, []), (65, .getfield 372, 3, [1245]), (68, .ireturn, 1, [])]
def p_Mo_worst : zz_P := (268, ⟨"TurnQueuesModel", "worst", "(III)I"⟩, prog_14_method_91_code, 4, (some .int), q_Mo_worst)
set_option maxRecDepth 100000 in
theorem k_Mo_worst : zz_okP p_Mo_worst := ⟨by decide +kernel, zz_mem_r [1704, 1893, 1541, 1708, 1541, 1894, 1401, 1402, 1403] rfl (by decide +kernel)⟩
set_option maxRecDepth 100000 in
theorem o_Mo_worst : zz_okC p_Mo_worst false 12 4 := zz_okV (zz_mem_r (ws := [Cond.code p_Mo_worst.y p_Mo_worst.bytes p_Mo_worst.maxL p_Mo_worst.ret, Cond.initialized p_Mo_worst.y.cls, Cond.instanceMethod p_Mo_worst.y, Cond.selects p_Mo_worst.y.cls p_Mo_worst.y p_Mo_worst.y]) [1909, 109, 1907, 1908] rfl (by decide +kernel)) rfl rfl (by decide +kernel) (by decide +kernel) rfl (by decide +kernel) rfl
def q_Mo_drain : List zz_C := [(0, .aload_n 0, 1, []), (1, .iload_n 1, 1, []), (2, .invokevirtual 311, 3, [216]), (5, .ifCond .ne 6, 3, [6]), (8, .bipush (-2), 2, []), (10, .ireturn, 1, []), (11, .aload_n 0, 1, []), (12, .getfield 94, 3, [1203]), (15, .istore_n 2, 1, []), (16, .iconst 0, 1, []), (17, .istore_n 3, 1, []), (18, .aload_n 0, 1, []), (19, .iload_n 1, 1, []), (20, .bipush 122, 2, []), (22, .invokevirtual 108, 3, [186]), (25, .aload_n 0, 1, []), (26, .bipush 122, 2, []), (28, .bipush 11, 2, []), (30, .invokevirtual 101, 3, [183]), (33, .ifCond .le 27, 3, [34]), (36, .iload_n 3, 1, []), (37, .aload_n 0, 1, []), (38, .bipush 122, 2, []), (40, .bipush 123, 2, []), (42, .iconst 1, 1, []), (43, .iconst 0, 1, []), (44, .invokevirtual 179, 3, [189]), (47, .iadd, 1, []), (48, .istore_n 3, 1, []), (49, .aload_n 0, 1, []), (50, .bipush 123, 2, []), (52, .bipush 122, 2, []), (54, .invokevirtual 108, 3, [186]), (57, .goto (-32), 3, [15]), (60, .aload_n 0, 1, []), (61, .iload_n 2, 1, []), (62, .putfield 94, 3, [1203]), (65, .iload_n 3, 1, []), (66, .ireturn, 1, [])]
def p_Mo_drain : zz_P := (269, ⟨"TurnQueuesModel", "drain", "(I)I"⟩, prog_14_method_92_code, 4, (some .int), q_Mo_drain)
set_option maxRecDepth 100000 in
theorem k_Mo_drain : zz_okP p_Mo_drain := ⟨by decide +kernel, zz_mem_r [1704, 1361, 1631, 1635, 1627, 1631, 1361] rfl (by decide +kernel)⟩
set_option maxRecDepth 100000 in
theorem o_Mo_drain : zz_okC p_Mo_drain false 12 2 := zz_okV (zz_mem_r (ws := [Cond.code p_Mo_drain.y p_Mo_drain.bytes p_Mo_drain.maxL p_Mo_drain.ret, Cond.initialized p_Mo_drain.y.cls, Cond.instanceMethod p_Mo_drain.y, Cond.selects p_Mo_drain.y.cls p_Mo_drain.y p_Mo_drain.y]) [1913, 109, 1911, 1912] rfl (by decide +kernel)) rfl rfl (by decide +kernel) (by decide +kernel) rfl (by decide +kernel) rfl
def q_Mo_laysWay : List zz_C := [(0, .aload_n 0, 1, []), (1, .iconst 0, 1, []), (2, .putfield 395, 3, [1251]), (5, .iload_n 2, 1, []), (6, .istore_n 3, 1, []), (7, .iload_n 3, 1, []), (8, .iload_n 1, 1, []), (9, .if_icmp .le 23, 3, [20]), (12, .aload_n 0, 1, []), (13, .dup, 1, []), (14, .getfield 395, 3, [1251]), (17, .iconst 1, 1, []), (18, .iadd, 1, []), (19, .putfield 395, 3, [1251]), (22, .aload_n 0, 1, []), (23, .getfield 22, 3, [1216]), (26, .iload_n 3, 1, []), (27, .iaload, 1, []), (28, .istore_n 3, 1, []), (29, .goto (-22), 3, [5]), (32, .aload_n 0, 1, []), (33, .getfield 395, 3, [1251]), (36, .istore_n 3, 1, []), (37, .iload_n 2, 1, []), (38, .istore 4, 2, []), (40, .iload 4, 2, []), (42, .iload_n 1, 1, []), (43, .if_icmp .le 26, 3, [40]), (46, .iinc 3 (-1), 3, []), (49, .aload_n 0, 1, []), (50, .getfield 79, 3, [1250]), (53, .iload_n 3, 1, []), (54, .iload 4, 2, []), (56, .iastore, 1, []), (57, .aload_n 0, 1, []), (58, .getfield 22, 3, [1216]), (61, .iload 4, 2, []), (63, .iaload, 1, []), (64, .istore 4, 2, []), (66, .goto (-26), 3, [25]), (69, .iload 4, 2, []), (71, .iload_n 1, 1, []), (72, .if_icmp .ne 7, 3, [45]), (75, .iconst 1, 1, []), (76, .goto 4, 3, [46]), (79, .iconst 0, 1, []), (80, .ireturn, 1, [])]
def p_Mo_laysWay : zz_P := (270, ⟨"TurnQueuesModel", "laysWay", "(II)Z"⟩, prog_14_method_93_code, 5, (some .boolean), q_Mo_laysWay)
set_option maxRecDepth 100000 in
theorem k_Mo_laysWay : zz_okP p_Mo_laysWay := ⟨by decide +kernel, zz_mem_r [1409, 1409, 1409, 1374, 1409, 1408, 1374] rfl (by decide +kernel)⟩
set_option maxRecDepth 100000 in
theorem o_Mo_laysWay : zz_okC p_Mo_laysWay false 12 3 := zz_okV (zz_mem_r (ws := [Cond.code p_Mo_laysWay.y p_Mo_laysWay.bytes p_Mo_laysWay.maxL p_Mo_laysWay.ret, Cond.initialized p_Mo_laysWay.y.cls, Cond.instanceMethod p_Mo_laysWay.y, Cond.selects p_Mo_laysWay.y.cls p_Mo_laysWay.y p_Mo_laysWay.y]) [1926, 109, 1925, 83] rfl (by decide +kernel)) rfl rfl (by decide +kernel) (by decide +kernel) rfl (by decide +kernel) rfl
def q_Mo_takesOut : List zz_C := [(0, .aload_n 0, 1, []), (1, .dup, 1, []), (2, .getfield 398, 3, [1253]), (5, .iconst 1, 1, []), (6, .isub, 1, []), (7, .putfield 398, 3, [1253]), (10, .iload_n 1, 1, []), (11, .istore_n 2, 1, []), (12, .iload_n 2, 1, []), (13, .aload_n 0, 1, []), (14, .getfield 398, 3, [1253]), (17, .if_icmp .ge 23, 3, [24]), (20, .aload_n 0, 1, []), (21, .getfield 82, 3, [1252]), (24, .iload_n 2, 1, []), (25, .aload_n 0, 1, []), (26, .getfield 82, 3, [1252]), (29, .iload_n 2, 1, []), (30, .iconst 1, 1, []), (31, .iadd, 1, []), (32, .iaload, 1, []), (33, .iastore, 1, []), (34, .iinc 2 1, 3, []), (37, .goto (-25), 3, [8]), (40, .return_, 1, [])]
def p_Mo_takesOut : zz_P := (271, ⟨"TurnQueuesModel", "takesOut", "(I)V"⟩, prog_14_method_94_code, 3, none, q_Mo_takesOut)
set_option maxRecDepth 100000 in
theorem k_Mo_takesOut : zz_okP p_Mo_takesOut := ⟨by decide +kernel, zz_mem_r [1411, 1411, 1411, 1410, 1410] rfl (by decide +kernel)⟩
set_option maxRecDepth 100000 in
theorem o_Mo_takesOut : zz_okC p_Mo_takesOut false 12 2 := zz_okV (zz_mem_r (ws := [Cond.code p_Mo_takesOut.y p_Mo_takesOut.bytes p_Mo_takesOut.maxL p_Mo_takesOut.ret, Cond.initialized p_Mo_takesOut.y.cls, Cond.instanceMethod p_Mo_takesOut.y, Cond.selects p_Mo_takesOut.y.cls p_Mo_takesOut.y p_Mo_takesOut.y]) [1938, 109, 1937, 86] rfl (by decide +kernel)) rfl rfl (by decide +kernel) (by decide +kernel) rfl (by decide +kernel) rfl
def q_Mo_putsIn : List zz_C := [(0, .aload_n 0, 1, []), (1, .getfield 398, 3, [1253]), (4, .istore_n 3, 1, []), (5, .iload_n 3, 1, []), (6, .iload_n 1, 1, []), (7, .if_icmp .le 23, 3, [18]), (10, .aload_n 0, 1, []), (11, .getfield 82, 3, [1252]), (14, .iload_n 3, 1, []), (15, .aload_n 0, 1, []), (16, .getfield 82, 3, [1252]), (19, .iload_n 3, 1, []), (20, .iconst 1, 1, []), (21, .isub, 1, []), (22, .iaload, 1, []), (23, .iastore, 1, []), (24, .iinc 3 (-1), 3, []), (27, .goto (-22), 3, [3]), (30, .aload_n 0, 1, []), (31, .getfield 82, 3, [1252]), (34, .iload_n 1, 1, []), (35, .iload_n 2, 1, []), (36, .iastore, 1, []), (37, .aload_n 0, 1, []), (38, .dup, 1, []), (39, .getfield 398, 3, [1253]), (42, .iconst 1, 1, []), (43, .iadd, 1, []), (44, .putfield 398, 3, [1253]), (47, .return_, 1, [])]
def p_Mo_putsIn : zz_P := (272, ⟨"TurnQueuesModel", "putsIn", "(II)V"⟩, prog_14_method_95_code, 4, none, q_Mo_putsIn)
set_option maxRecDepth 100000 in
theorem k_Mo_putsIn : zz_okP p_Mo_putsIn := ⟨by decide +kernel, zz_mem_r [1411, 1410, 1410, 1410, 1411, 1411] rfl (by decide +kernel)⟩
set_option maxRecDepth 100000 in
theorem o_Mo_putsIn : zz_okC p_Mo_putsIn false 12 3 := zz_okV (zz_mem_r (ws := [Cond.code p_Mo_putsIn.y p_Mo_putsIn.bytes p_Mo_putsIn.maxL p_Mo_putsIn.ret, Cond.initialized p_Mo_putsIn.y.cls, Cond.instanceMethod p_Mo_putsIn.y, Cond.selects p_Mo_putsIn.y.cls p_Mo_putsIn.y p_Mo_putsIn.y]) [1934, 109, 1933, 85] rfl (by decide +kernel)) rfl rfl (by decide +kernel) (by decide +kernel) rfl (by decide +kernel) rfl
def q_Mo_grafts : List zz_C := [(0, .aload_n 0, 1, []), (1, .getfield 94, 3, [1203]), (4, .istore_n 2, 1, []), (5, .aload_n 0, 1, []), (6, .iload_n 1, 1, []), (7, .bipush 122, 2, []), (9, .invokevirtual 108, 3, [186]), (12, .aload_n 0, 1, []), (13, .aload_n 0, 1, []), (14, .getfield 44, 3, [1223]), (17, .iload_n 1, 1, []), (18, .iaload, 1, []), (19, .putfield 398, 3, [1253]), (22, .iconst 0, 1, []), (23, .istore_n 3, 1, []), (24, .iload_n 3, 1, []), (25, .aload_n 0, 1, []), (26, .getfield 398, 3, [1253]), (29, .if_icmp .ge 21, 3, [29]), (32, .aload_n 0, 1, []), (33, .getfield 82, 3, [1252]), (36, .iload_n 3, 1, []), (37, .aload_n 0, 1, []), (38, .iload_n 1, 1, []), (39, .iload_n 3, 1, []), (40, .invokevirtual 169, 3, [198]), (43, .iastore, 1, []), (44, .iinc 3 1, 3, []), (47, .goto (-23), 3, [15]), (50, .aload_n 0, 1, []), (51, .iconst (-1), 1, []), (52, .putfield 401, 3, [1254]), (55, .iconst 0, 1, []), (56, .istore_n 3, 1, []), (57, .iconst 0, 1, []), (58, .istore 4, 2, []), (60, .iload 4, 2, []), (62, .aload_n 0, 1, []), (63, .getfield 395, 3, [1251]), (66, .if_icmp .ge 158, 3, [122]), (69, .aload_n 0, 1, []), (70, .getfield 401, 3, [1254]), (73, .iconst (-1), 1, []), (74, .if_icmp .ne 150, 3, [122]), (77, .aload_n 0, 1, []), (78, .getfield 25, 3, [1217]), (81, .aload_n 0, 1, []), (82, .getfield 79, 3, [1250]), (85, .iload 4, 2, []), (87, .iaload, 1, []), (88, .iaload, 1, []), (89, .istore 5, 2, []), (91, .aload_n 0, 1, []), (92, .getfield 28, 3, [1218]), (95, .aload_n 0, 1, []), (96, .getfield 79, 3, [1250]), (99, .iload 4, 2, []), (101, .iaload, 1, []), (102, .iaload, 1, []), (103, .istore 6, 2, []), (105, .iload 5, 2, []), (107, .iconst 1, 1, []), (108, .if_icmp .eq 9, 3, [66]), (111, .iload 5, 2, []), (113, .iconst 3, 1, []), (114, .if_icmp .ne 26, 3, [78]), (117, .aload_n 0, 1, []), (118, .getfield 398, 3, [1253]), (121, .ifCond .ne 19, 3, [78]), (124, .aload_n 0, 1, []), (125, .aload_n 0, 1, []), (126, .getfield 79, 3, [1250]), (129, .iload 4, 2, []), (131, .iaload, 1, []), (132, .iconst 1, 1, []), (133, .isub, 1, []), (134, .putfield 401, 3, [1254]), (137, .goto 81, 3, [120]), (140, .iload_n 3, 1, []), (141, .aload_n 0, 1, []), (142, .bipush 122, 2, []), (144, .bipush 123, 2, []), (146, .iload 5, 2, []), (148, .iload 6, 2, []), (150, .invokevirtual 179, 3, [189]), (153, .iadd, 1, []), (154, .istore_n 3, 1, []), (155, .aload_n 0, 1, []), (156, .bipush 123, 2, []), (158, .bipush 122, 2, []), (160, .invokevirtual 108, 3, [186]), (163, .iload 5, 2, []), (165, .ifCond .ne 13, 3, [98]), (168, .aload_n 0, 1, []), (169, .aload_n 0, 1, []), (170, .getfield 398, 3, [1253]), (173, .iload 6, 2, []), (175, .invokevirtual 404, 3, [272]), (178, .iload 5, 2, []), (180, .iconst 2, 1, []), (181, .if_icmp .ne 10, 3, [105]), (184, .aload_n 0, 1, []), (185, .iconst 0, 1, []), (186, .iload 6, 2, []), (188, .invokevirtual 404, 3, [272]), (191, .iload 5, 2, []), (193, .iconst 1, 1, []), (194, .if_icmp .ne 8, 3, [111]), (197, .aload_n 0, 1, []), (198, .iconst 0, 1, []), (199, .invokevirtual 407, 3, [271]), (202, .iload 5, 2, []), (204, .iconst 3, 1, []), (205, .if_icmp .ne 13, 3, [120]), (208, .aload_n 0, 1, []), (209, .aload_n 0, 1, []), (210, .getfield 398, 3, [1253]), (213, .iconst 1, 1, []), (214, .isub, 1, []), (215, .invokevirtual 407, 3, [271]), (218, .iinc 4 1, 3, []), (221, .goto (-161), 3, [36]), (224, .aload_n 0, 1, []), (225, .iload_n 2, 1, []), (226, .putfield 94, 3, [1203]), (229, .iload_n 3, 1, []), (230, .ireturn, 1, [])]
def p_Mo_grafts : zz_P := (273, ⟨"TurnQueuesModel", "grafts", "(I)I"⟩, prog_14_method_96_code, 7, (some .int), q_Mo_grafts)
set_option maxRecDepth 100000 in
theorem k_Mo_grafts : zz_okP p_Mo_grafts := ⟨by decide +kernel, zz_mem_r [1361, 1631, 1381, 1411, 1411, 1410, 1619, 1412, 1409, 1412, 1375, 1408, 1376, 1408, 1411, 1408, 1412, 1627, 1631, 1411, 1931, 1931, 1935, 1411, 1935, 1361] rfl (by decide +kernel)⟩
set_option maxRecDepth 100000 in
theorem o_Mo_grafts : zz_okC p_Mo_grafts false 12 2 := zz_okV (zz_mem_r (ws := [Cond.code p_Mo_grafts.y p_Mo_grafts.bytes p_Mo_grafts.maxL p_Mo_grafts.ret, Cond.initialized p_Mo_grafts.y.cls, Cond.instanceMethod p_Mo_grafts.y, Cond.selects p_Mo_grafts.y.cls p_Mo_grafts.y p_Mo_grafts.y]) [1930, 109, 1929, 84] rfl (by decide +kernel)) rfl rfl (by decide +kernel) (by decide +kernel) rfl (by decide +kernel) rfl
def q_Mo_areThree : List zz_C := [(0, .aload_n 0, 1, []), (1, .iload_n 1, 1, []), (2, .invokevirtual 311, 3, [216]), (5, .ifCond .eq 23, 3, [14]), (8, .aload_n 0, 1, []), (9, .iload_n 2, 1, []), (10, .invokevirtual 311, 3, [216]), (13, .ifCond .eq 15, 3, [14]), (16, .aload_n 0, 1, []), (17, .iload_n 3, 1, []), (18, .invokevirtual 311, 3, [216]), (21, .ifCond .eq 7, 3, [14]), (24, .iconst 1, 1, []), (25, .goto 4, 3, [15]), (28, .iconst 0, 1, []), (29, .ireturn, 1, [])]
def p_Mo_areThree : zz_P := (274, ⟨"TurnQueuesModel", "areThree", "(III)Z"⟩, prog_14_method_97_code, 4, (some .boolean), q_Mo_areThree)
set_option maxRecDepth 100000 in
theorem k_Mo_areThree : zz_okP p_Mo_areThree := ⟨by decide +kernel, zz_mem_r [1704, 1704, 1704] rfl (by decide +kernel)⟩
set_option maxRecDepth 100000 in
theorem o_Mo_areThree : zz_okC p_Mo_areThree false 12 4 := zz_okV (zz_mem_r (ws := [Cond.code p_Mo_areThree.y p_Mo_areThree.bytes p_Mo_areThree.maxL p_Mo_areThree.ret, Cond.initialized p_Mo_areThree.y.cls, Cond.instanceMethod p_Mo_areThree.y, Cond.selects p_Mo_areThree.y.cls p_Mo_areThree.y p_Mo_areThree.y]) [1921, 109, 1920, 82] rfl (by decide +kernel)) rfl rfl (by decide +kernel) (by decide +kernel) rfl (by decide +kernel) rfl
def q_Mo_grafting : List zz_C := [(0, .aload_n 0, 1, []), (1, .iload_n 1, 1, []), (2, .iload_n 2, 1, []), (3, .iload_n 3, 1, []), (4, .invokevirtual 410, 3, [274]), (7, .ifCond .eq 16, 3, [12]), (10, .iload 4, 2, []), (12, .i2l, 1, []), (13, .lconst 0, 1, []), (14, .ldc2_w 413, 3, [3]), (17, .invokestatic 195, 3, [180]), (20, .ifCond .ne 6, 3, [14]), (23, .bipush (-2), 2, []), (25, .ireturn, 1, []), (26, .aload_n 0, 1, []), (27, .iload_n 1, 1, []), (28, .iload_n 2, 1, []), (29, .invokevirtual 415, 3, [270]), (32, .ifCond .ne 5, 3, [21]), (35, .iconst (-1), 1, []), (36, .ireturn, 1, []), (37, .aload_n 0, 1, []), (38, .iload_n 3, 1, []), (39, .invokevirtual 418, 3, [273]), (42, .istore 5, 2, []), (44, .iload 4, 2, []), (46, .tableswitch 39 0 2 #[26, 31, 34], 26, [35, 27, 30, 32]), (72, .aload_n 0, 1, []), (73, .getfield 395, 3, [1251]), (76, .ireturn, 1, []), (77, .iload 5, 2, []), (79, .ireturn, 1, []), (80, .aload_n 0, 1, []), (81, .getfield 401, 3, [1254]), (84, .ireturn, 1, []), (85, .aload_n 0, 1, []), (86, .getfield 398, 3, [1253]), (89, .ireturn, 1, [])]
def p_Mo_grafting : zz_P := (275, ⟨"TurnQueuesModel", "grafting", "(IIII)I"⟩, prog_14_method_98_code, 6, (some .int), q_Mo_grafting)
set_option maxRecDepth 100000 in
theorem k_Mo_grafting : zz_okP p_Mo_grafting := ⟨by decide +kernel, zz_mem_r [1918, 1922, 1541, 1923, 1927, 1409, 1412, 1411] rfl (by decide +kernel)⟩
set_option maxRecDepth 100000 in
theorem o_Mo_grafting : zz_okC p_Mo_grafting false 12 5 := zz_okV (zz_mem_r (ws := [Cond.code p_Mo_grafting.y p_Mo_grafting.bytes p_Mo_grafting.maxL p_Mo_grafting.ret, Cond.initialized p_Mo_grafting.y.cls, Cond.instanceMethod p_Mo_grafting.y, Cond.selects p_Mo_grafting.y.cls p_Mo_grafting.y p_Mo_grafting.y]) [1917, 109, 1915, 1916] rfl (by decide +kernel)) rfl rfl (by decide +kernel) (by decide +kernel) rfl (by decide +kernel) rfl
def q_Mo_grafted : List zz_C := [(0, .aload_n 0, 1, []), (1, .iload_n 1, 1, []), (2, .iload_n 2, 1, []), (3, .iload_n 3, 1, []), (4, .invokevirtual 410, 3, [274]), (7, .ifCond .eq 8, 3, [8]), (10, .iload 4, 2, []), (12, .ifCond .ge 6, 3, [10]), (15, .bipush (-2), 2, []), (17, .ireturn, 1, []), (18, .aload_n 0, 1, []), (19, .iload_n 1, 1, []), (20, .iload_n 2, 1, []), (21, .invokevirtual 415, 3, [270]), (24, .ifCond .ne 5, 3, [17]), (27, .iconst (-1), 1, []), (28, .ireturn, 1, []), (29, .aload_n 0, 1, []), (30, .iload_n 3, 1, []), (31, .invokevirtual 418, 3, [273]), (34, .istore 5, 2, []), (36, .iload 5, 2, []), (38, .ifCond .lt 22, 3, [32]), (41, .iload 4, 2, []), (43, .aload_n 0, 1, []), (44, .getfield 398, 3, [1253]), (47, .if_icmp .ge 13, 3, [32]), (50, .aload_n 0, 1, []), (51, .getfield 82, 3, [1252]), (54, .iload 4, 2, []), (56, .iaload, 1, []), (57, .goto 4, 3, [33]), (60, .iconst (-1), 1, []), (61, .ireturn, 1, [])]
def p_Mo_grafted : zz_P := (276, ⟨"TurnQueuesModel", "grafted", "(IIII)I"⟩, prog_14_method_99_code, 6, (some .int), q_Mo_grafted)
set_option maxRecDepth 100000 in
theorem k_Mo_grafted : zz_okP p_Mo_grafted := ⟨by decide +kernel, zz_mem_r [1918, 1923, 1927, 1411, 1410] rfl (by decide +kernel)⟩
set_option maxRecDepth 100000 in
theorem o_Mo_grafted : zz_okC p_Mo_grafted false 12 5 := zz_okV (zz_mem_r (ws := [Cond.code p_Mo_grafted.y p_Mo_grafted.bytes p_Mo_grafted.maxL p_Mo_grafted.ret, Cond.initialized p_Mo_grafted.y.cls, Cond.instanceMethod p_Mo_grafted.y, Cond.selects p_Mo_grafted.y.cls p_Mo_grafted.y p_Mo_grafted.y]) [1942, 109, 1940, 1941] rfl (by decide +kernel)) rfl rfl (by decide +kernel) (by decide +kernel) rfl (by decide +kernel) rfl
def q_Mo_graft : List zz_C := [(0, .aload_n 0, 1, []), (1, .iload_n 1, 1, []), (2, .iload_n 2, 1, []), (3, .iload_n 3, 1, []), (4, .invokevirtual 410, 3, [274]), (7, .ifCond .ne 6, 3, [8]), (10, .bipush (-2), 2, []), (12, .ireturn, 1, []), (13, .aload_n 0, 1, []), (14, .iload_n 1, 1, []), (15, .iload_n 2, 1, []), (16, .invokevirtual 415, 3, [270]), (19, .ifCond .ne 6, 3, [15]), (22, .bipush (-3), 2, []), (24, .ireturn, 1, []), (25, .aload_n 0, 1, []), (26, .iload_n 3, 1, []), (27, .invokevirtual 418, 3, [273]), (30, .istore 4, 2, []), (32, .iload 4, 2, []), (34, .ifCond .lt 25, 3, [32]), (37, .aload_n 0, 1, []), (38, .getfield 401, 3, [1254]), (41, .iconst (-1), 1, []), (42, .if_icmp .ne 17, 3, [32]), (45, .aload_n 0, 1, []), (46, .getfield 172, 3, [1215]), (49, .aload_n 0, 1, []), (50, .getfield 395, 3, [1251]), (53, .iadd, 1, []), (54, .bipush 61, 2, []), (56, .if_icmp .le 6, 3, [34]), (59, .bipush (-5), 2, []), (61, .ireturn, 1, []), (62, .iload_n 3, 1, []), (63, .istore 5, 2, []), (65, .aload_n 0, 1, []), (66, .getfield 395, 3, [1251]), (69, .istore 6, 2, []), (71, .iconst 0, 1, []), (72, .istore 7, 2, []), (74, .iload 7, 2, []), (76, .iload 6, 2, []), (78, .if_icmp .ge 48, 3, [69]), (81, .aload_n 0, 1, []), (82, .iload 5, 2, []), (84, .aload_n 0, 1, []), (85, .getfield 25, 3, [1217]), (88, .aload_n 0, 1, []), (89, .getfield 79, 3, [1250]), (92, .iload 7, 2, []), (94, .iaload, 1, []), (95, .iaload, 1, []), (96, .aload_n 0, 1, []), (97, .getfield 28, 3, [1218]), (100, .aload_n 0, 1, []), (101, .getfield 79, 3, [1250]), (104, .iload 7, 2, []), (106, .iaload, 1, []), (107, .iaload, 1, []), (108, .invokevirtual 296, 3, [200]), (111, .pop, 1, []), (112, .aload_n 0, 1, []), (113, .getfield 172, 3, [1215]), (116, .iconst 1, 1, []), (117, .isub, 1, []), (118, .istore 5, 2, []), (120, .iinc 7 1, 3, []), (123, .goto (-49), 3, [41]), (126, .iload 5, 2, []), (128, .ireturn, 1, [])]
def p_Mo_graft : zz_P := (277, ⟨"TurnQueuesModel", "graft", "(III)I"⟩, prog_14_method_100_code, 8, (some .int), q_Mo_graft)
set_option maxRecDepth 100000 in
theorem k_Mo_graft : zz_okP p_Mo_graft := ⟨by decide +kernel, zz_mem_r [1918, 1923, 1927, 1412, 1373, 1409, 1409, 1375, 1408, 1376, 1408, 1615, 1373] rfl (by decide +kernel)⟩
set_option maxRecDepth 100000 in
theorem o_Mo_graft : zz_okC p_Mo_graft false 12 4 := zz_okV (zz_mem_r (ws := [Cond.code p_Mo_graft.y p_Mo_graft.bytes p_Mo_graft.maxL p_Mo_graft.ret, Cond.initialized p_Mo_graft.y.cls, Cond.instanceMethod p_Mo_graft.y, Cond.selects p_Mo_graft.y.cls p_Mo_graft.y p_Mo_graft.y]) [1946, 109, 1944, 1945] rfl (by decide +kernel)) rfl rfl (by decide +kernel) (by decide +kernel) rfl (by decide +kernel) rfl
def q_Mo_tells : List zz_C := [(0, .iconst 0, 1, []), (1, .istore_n 2, 1, []), (2, .iload_n 2, 1, []), (3, .aload_n 1, 1, []), (4, .invokevirtual 233, 3, [297]), (7, .if_icmp .ge 34, 3, [23]), (10, .aload_n 0, 1, []), (11, .getfield 85, 3, [1255]), (14, .aload_n 0, 1, []), (15, .getfield 303, 3, [1256]), (18, .aload_n 1, 1, []), (19, .iload_n 2, 1, []), (20, .invokevirtual 239, 3, [298]), (23, .i2b, 1, []), (24, .bastore, 1, []), (25, .aload_n 0, 1, []), (26, .dup, 1, []), (27, .getfield 303, 3, [1256]), (30, .iconst 1, 1, []), (31, .iadd, 1, []), (32, .putfield 303, 3, [1256]), (35, .iinc 2 1, 3, []), (38, .goto (-36), 3, [2]), (41, .return_, 1, [])]
def p_Mo_tells : zz_P := (278, ⟨"TurnQueuesModel", "tells", "(Ljava/lang/String;)V"⟩, prog_14_method_101_code, 3, none, q_Mo_tells)
set_option maxRecDepth 100000 in
theorem k_Mo_tells : zz_okP p_Mo_tells := ⟨by decide +kernel, zz_mem_r [1575, 1413, 1414, 1576, 1414, 1414] rfl (by decide +kernel)⟩
set_option maxRecDepth 100000 in
theorem o_Mo_tells : zz_okC p_Mo_tells false 12 2 := zz_okV (zz_mem_r (ws := [Cond.code p_Mo_tells.y p_Mo_tells.bytes p_Mo_tells.maxL p_Mo_tells.ret, Cond.initialized p_Mo_tells.y.cls, Cond.instanceMethod p_Mo_tells.y, Cond.selects p_Mo_tells.y.cls p_Mo_tells.y p_Mo_tells.y]) [1959, 109, 1958, 88] rfl (by decide +kernel)) rfl rfl (by decide +kernel) (by decide +kernel) rfl (by decide +kernel) rfl
def q_Mo_tellsNumber : List zz_C := [(0, .iload_n 1, 1, []), (1, .ifCond .ge 10, 3, [5]), (4, .aload_n 0, 1, []), (5, .ldc_w 421, 3, [0, 27]), (8, .invokevirtual 423, 3, [278]), (11, .iload_n 1, 1, []), (12, .invokestatic 427, 3, [301]), (15, .istore_n 2, 1, []), (16, .iload_n 2, 1, []), (17, .bipush 9, 2, []), (19, .if_icmp .le 11, 3, [16]), (22, .aload_n 0, 1, []), (23, .iload_n 2, 1, []), (24, .bipush 10, 2, []), (26, .idiv, 1, []), (27, .invokevirtual 430, 3, [279]), (30, .aload_n 0, 1, []), (31, .getfield 85, 3, [1255]), (34, .aload_n 0, 1, []), (35, .getfield 303, 3, [1256]), (38, .bipush 48, 2, []), (40, .iload_n 2, 1, []), (41, .bipush 10, 2, []), (43, .irem, 1, []), (44, .iadd, 1, []), (45, .i2b, 1, []), (46, .bastore, 1, []), (47, .aload_n 0, 1, []), (48, .dup, 1, []), (49, .getfield 303, 3, [1256]), (52, .iconst 1, 1, []), (53, .iadd, 1, []), (54, .putfield 303, 3, [1256]), (57, .return_, 1, [])]
def p_Mo_tellsNumber : zz_P := (279, ⟨"TurnQueuesModel", "tellsNumber", "(I)V"⟩, prog_14_method_102_code, 3, none, q_Mo_tellsNumber)
set_option maxRecDepth 100000 in
theorem k_Mo_tellsNumber : zz_okP p_Mo_tellsNumber := ⟨by decide +kernel, zz_mem_r [1956, 1966, 1961, 1413, 1414, 1414, 1414] rfl (by decide +kernel)⟩
set_option maxRecDepth 100000 in
theorem o_Mo_tellsNumber : zz_okC p_Mo_tellsNumber false 12 2 := zz_okV (zz_mem_r (ws := [Cond.code p_Mo_tellsNumber.y p_Mo_tellsNumber.bytes p_Mo_tellsNumber.maxL p_Mo_tellsNumber.ret, Cond.initialized p_Mo_tellsNumber.y.cls, Cond.instanceMethod p_Mo_tellsNumber.y, Cond.selects p_Mo_tellsNumber.y.cls p_Mo_tellsNumber.y p_Mo_tellsNumber.y]) [1964, 109, 1963, 89] rfl (by decide +kernel)) rfl rfl (by decide +kernel) (by decide +kernel) rfl (by decide +kernel) rfl
def q_Mo_tellsRow : List zz_C := [(0, .aload_n 0, 1, []), (1, .aload_n 1, 1, []), (2, .invokevirtual 423, 3, [278]), (5, .iload_n 2, 1, []), (6, .istore_n 3, 1, []), (7, .iload_n 3, 1, []), (8, .iconst (-1), 1, []), (9, .if_icmp .eq 30, 3, [23]), (12, .aload_n 0, 1, []), (13, .ldc_w 433, 3, [0, 26]), (16, .invokevirtual 423, 3, [278]), (19, .aload_n 0, 1, []), (20, .aload_n 0, 1, []), (21, .getfield 9, 3, [1201]), (24, .iload_n 3, 1, []), (25, .iaload, 1, []), (26, .invokevirtual 430, 3, [279]), (29, .aload_n 0, 1, []), (30, .getfield 13, 3, [1202]), (33, .iload_n 3, 1, []), (34, .iaload, 1, []), (35, .istore_n 3, 1, []), (36, .goto (-29), 3, [5]), (39, .return_, 1, [])]
def p_Mo_tellsRow : zz_P := (280, ⟨"TurnQueuesModel", "tellsRow", "(Ljava/lang/String;I)V"⟩, prog_14_method_103_code, 4, none, q_Mo_tellsRow)
set_option maxRecDepth 100000 in
theorem k_Mo_tellsRow : zz_okP p_Mo_tellsRow := ⟨by decide +kernel, zz_mem_r [1956, 1956, 1359, 1961, 1360] rfl (by decide +kernel)⟩
set_option maxRecDepth 100000 in
theorem o_Mo_tellsRow : zz_okC p_Mo_tellsRow false 12 3 := zz_okV (zz_mem_r (ws := [Cond.code p_Mo_tellsRow.y p_Mo_tellsRow.bytes p_Mo_tellsRow.maxL p_Mo_tellsRow.ret, Cond.initialized p_Mo_tellsRow.y.cls, Cond.instanceMethod p_Mo_tellsRow.y, Cond.selects p_Mo_tellsRow.y.cls p_Mo_tellsRow.y p_Mo_tellsRow.y]) [1955, 109, 1954, 87] rfl (by decide +kernel)) rfl rfl (by decide +kernel) (by decide +kernel) rfl (by decide +kernel) rfl
def q_Mo_tellsState : List zz_C := [(0, .aload_n 0, 1, []), (1, .iload_n 1, 1, []), (2, .bipush 7, 2, []), (4, .invokevirtual 101, 3, [183]), (7, .istore_n 2, 1, []), (8, .aload_n 0, 1, []), (9, .iload_n 2, 1, []), (10, .ifCond .ne 9, 3, [10]), (13, .ldc_w 435, 3, [0, 29]), (16, .goto 17, 3, [16]), (19, .iload_n 2, 1, []), (20, .iconst 1, 1, []), (21, .if_icmp .ne 9, 3, [15]), (24, .ldc_w 437, 3, [0, 30]), (27, .goto 6, 3, [16]), (30, .ldc_w 439, 3, [0, 31]), (33, .invokevirtual 423, 3, [278]), (36, .iload_n 2, 1, []), (37, .ifCond .ne 4, 3, [20]), (40, .return_, 1, []), (41, .aload_n 0, 1, []), (42, .aload_n 0, 1, []), (43, .iload_n 1, 1, []), (44, .bipush 8, 2, []), (46, .invokevirtual 101, 3, [183]), (49, .invokevirtual 430, 3, [279]), (52, .iload_n 2, 1, []), (53, .iconst 1, 1, []), (54, .if_icmp .ne 16, 3, [36]), (57, .aload_n 0, 1, []), (58, .ldc_w 441, 3, [0, 32]), (61, .aload_n 0, 1, []), (62, .iload_n 1, 1, []), (63, .iconst 2, 1, []), (64, .invokevirtual 101, 3, [183]), (67, .invokevirtual 443, 3, [280]), (70, .aload_n 0, 1, []), (71, .ldc_w 447, 3, [0, 33]), (74, .aload_n 0, 1, []), (75, .iload_n 1, 1, []), (76, .iconst 3, 1, []), (77, .invokevirtual 101, 3, [183]), (80, .invokevirtual 443, 3, [280]), (83, .iload_n 2, 1, []), (84, .iconst 1, 1, []), (85, .if_icmp .ne 16, 3, [53]), (88, .aload_n 0, 1, []), (89, .ldc_w 449, 3, [0, 34]), (92, .aload_n 0, 1, []), (93, .iload_n 1, 1, []), (94, .iconst 4, 1, []), (95, .invokevirtual 101, 3, [183]), (98, .invokevirtual 443, 3, [280]), (101, .aload_n 0, 1, []), (102, .ldc_w 451, 3, [0, 35]), (105, .aload_n 0, 1, []), (106, .iload_n 1, 1, []), (107, .iconst 5, 1, []), (108, .invokevirtual 101, 3, [183]), (111, .invokevirtual 443, 3, [280]), (114, .return_, 1, [])]
def p_Mo_tellsState : zz_P := (281, ⟨"TurnQueuesModel", "tellsState", "(I)V"⟩, prog_14_method_104_code, 3, none, q_Mo_tellsState)
set_option maxRecDepth 100000 in
theorem k_Mo_tellsState : zz_okP p_Mo_tellsState := ⟨by decide +kernel, zz_mem_r [1635, 1956, 1635, 1961, 1635, 1952, 1635, 1952, 1635, 1952, 1635, 1952] rfl (by decide +kernel)⟩
set_option maxRecDepth 100000 in
theorem o_Mo_tellsState : zz_okC p_Mo_tellsState false 12 2 := zz_okV (zz_mem_r (ws := [Cond.code p_Mo_tellsState.y p_Mo_tellsState.bytes p_Mo_tellsState.maxL p_Mo_tellsState.ret, Cond.initialized p_Mo_tellsState.y.cls, Cond.instanceMethod p_Mo_tellsState.y, Cond.selects p_Mo_tellsState.y.cls p_Mo_tellsState.y p_Mo_tellsState.y]) [1973, 109, 1972, 90] rfl (by decide +kernel)) rfl rfl (by decide +kernel) (by decide +kernel) rfl (by decide +kernel) rfl
def q_Mo_tell : List zz_C := [(0, .aload_n 0, 1, []), (1, .iload_n 1, 1, []), (2, .invokevirtual 311, 3, [216]), (5, .ifCond .ne 6, 3, [6]), (8, .bipush (-2), 2, []), (10, .ireturn, 1, []), (11, .aload_n 0, 1, []), (12, .iconst 0, 1, []), (13, .putfield 303, 3, [1256]), (16, .aload_n 0, 1, []), (17, .ldc_w 453, 3, [0, 25]), (20, .aload_n 0, 1, []), (21, .iload_n 1, 1, []), (22, .iconst 0, 1, []), (23, .invokevirtual 101, 3, [183]), (26, .invokevirtual 443, 3, [280]), (29, .aload_n 0, 1, []), (30, .ldc_w 455, 3, [0, 28]), (33, .aload_n 0, 1, []), (34, .iload_n 1, 1, []), (35, .iconst 1, 1, []), (36, .invokevirtual 101, 3, [183]), (39, .invokevirtual 443, 3, [280]), (42, .aload_n 0, 1, []), (43, .getfield 186, 3, [1211]), (46, .iconst 1, 1, []), (47, .if_icmp .ne 8, 3, [30]), (50, .aload_n 0, 1, []), (51, .iload_n 1, 1, []), (52, .invokevirtual 457, 3, [281]), (55, .aload_n 0, 1, []), (56, .getfield 186, 3, [1211]), (59, .iconst 2, 1, []), (60, .if_icmp .ne 39, 3, [52]), (63, .aload_n 0, 1, []), (64, .ldc_w 460, 3, [0, 36]), (67, .invokevirtual 423, 3, [278]), (70, .aload_n 0, 1, []), (71, .aload_n 0, 1, []), (72, .iload_n 1, 1, []), (73, .bipush 9, 2, []), (75, .invokevirtual 101, 3, [183]), (78, .invokevirtual 430, 3, [279]), (81, .aload_n 0, 1, []), (82, .ldc_w 433, 3, [0, 26]), (85, .invokevirtual 423, 3, [278]), (88, .aload_n 0, 1, []), (89, .aload_n 0, 1, []), (90, .iload_n 1, 1, []), (91, .bipush 10, 2, []), (93, .invokevirtual 101, 3, [183]), (96, .invokevirtual 430, 3, [279]), (99, .aload_n 0, 1, []), (100, .getfield 303, 3, [1256]), (103, .ireturn, 1, [])]
def p_Mo_tell : zz_P := (282, ⟨"TurnQueuesModel", "tell", "(I)I"⟩, prog_14_method_105_code, 2, (some .int), q_Mo_tell)
set_option maxRecDepth 100000 in
theorem k_Mo_tell : zz_okP p_Mo_tell := ⟨by decide +kernel, zz_mem_r [1704, 1414, 1635, 1952, 1635, 1952, 1369, 1970, 1369, 1956, 1635, 1961, 1956, 1635, 1961, 1414] rfl (by decide +kernel)⟩
set_option maxRecDepth 100000 in
theorem o_Mo_tell : zz_okC p_Mo_tell false 12 2 := zz_okV (zz_mem_r (ws := [Cond.code p_Mo_tell.y p_Mo_tell.bytes p_Mo_tell.maxL p_Mo_tell.ret, Cond.initialized p_Mo_tell.y.cls, Cond.instanceMethod p_Mo_tell.y, Cond.selects p_Mo_tell.y.cls p_Mo_tell.y p_Mo_tell.y]) [1950, 109, 1948, 1949] rfl (by decide +kernel)) rfl rfl (by decide +kernel) (by decide +kernel) rfl (by decide +kernel) rfl
def q_Mo_octet : List zz_C := [(0, .iload_n 1, 1, []), (1, .i2l, 1, []), (2, .lconst 0, 1, []), (3, .aload_n 0, 1, []), (4, .getfield 303, 3, [1256]), (7, .iconst 1, 1, []), (8, .isub, 1, []), (9, .i2l, 1, []), (10, .invokestatic 195, 3, [180]), (13, .ifCond .eq 12, 3, [15]), (16, .aload_n 0, 1, []), (17, .getfield 85, 3, [1255]), (20, .iload_n 1, 1, []), (21, .baload, 1, []), (22, .goto 4, 3, [16]), (25, .iconst (-1), 1, []), (26, .ireturn, 1, [])]
def p_Mo_octet : zz_P := (283, ⟨"TurnQueuesModel", "octet", "(I)I"⟩, prog_14_method_106_code, 2, (some .int), q_Mo_octet)
set_option maxRecDepth 100000 in
theorem k_Mo_octet : zz_okP p_Mo_octet := ⟨by decide +kernel, zz_mem_r [1414, 1541, 1413] rfl (by decide +kernel)⟩
set_option maxRecDepth 100000 in
theorem o_Mo_octet : zz_okC p_Mo_octet false 12 2 := zz_okV (zz_mem_r (ws := [Cond.code p_Mo_octet.y p_Mo_octet.bytes p_Mo_octet.maxL p_Mo_octet.ret, Cond.initialized p_Mo_octet.y.cls, Cond.instanceMethod p_Mo_octet.y, Cond.selects p_Mo_octet.y.cls p_Mo_octet.y p_Mo_octet.y]) [1985, 109, 1983, 1984] rfl (by decide +kernel)) rfl rfl (by decide +kernel) (by decide +kernel) rfl (by decide +kernel) rfl
def q_Mo_kindBy : List zz_C := [(0, .iload_n 1, 1, []), (1, .bipush 112, 2, []), (3, .if_icmp .ne 5, 3, [5]), (6, .iconst 0, 1, []), (7, .ireturn, 1, []), (8, .iload_n 1, 1, []), (9, .bipush 116, 2, []), (11, .if_icmp .ne 5, 3, [10]), (14, .iconst 1, 1, []), (15, .ireturn, 1, []), (16, .aload_n 0, 1, []), (17, .getfield 186, 3, [1211]), (20, .iconst 2, 1, []), (21, .if_icmp .ne 11, 3, [19]), (24, .iload_n 1, 1, []), (25, .bipush 102, 2, []), (27, .if_icmp .ne 5, 3, [19]), (30, .iconst 2, 1, []), (31, .ireturn, 1, []), (32, .aload_n 0, 1, []), (33, .getfield 186, 3, [1211]), (36, .iconst 2, 1, []), (37, .if_icmp .ne 13, 3, [28]), (40, .iload_n 1, 1, []), (41, .bipush 108, 2, []), (43, .if_icmp .ne 7, 3, [28]), (46, .iconst 3, 1, []), (47, .goto 4, 3, [29]), (50, .iconst (-1), 1, []), (51, .ireturn, 1, [])]
def p_Mo_kindBy : zz_P := (284, ⟨"TurnQueuesModel", "kindBy", "(I)I"⟩, prog_14_method_107_code, 2, (some .int), q_Mo_kindBy)
set_option maxRecDepth 100000 in
theorem k_Mo_kindBy : zz_okP p_Mo_kindBy := ⟨by decide +kernel, zz_mem_r [1369, 1369] rfl (by decide +kernel)⟩
set_option maxRecDepth 100000 in
theorem o_Mo_kindBy : zz_okC p_Mo_kindBy false 12 2 := zz_okV (zz_mem_r (ws := [Cond.code p_Mo_kindBy.y p_Mo_kindBy.bytes p_Mo_kindBy.maxL p_Mo_kindBy.ret, Cond.initialized p_Mo_kindBy.y.cls, Cond.instanceMethod p_Mo_kindBy.y, Cond.selects p_Mo_kindBy.y.cls p_Mo_kindBy.y p_Mo_kindBy.y]) [1997, 109, 1996, 92] rfl (by decide +kernel)) rfl rfl (by decide +kernel) (by decide +kernel) rfl (by decide +kernel) rfl
def q_Mo_walks : List zz_C := [(0, .aload_n 0, 1, []), (1, .iload_n 1, 1, []), (2, .bipush 122, 2, []), (4, .invokevirtual 108, 3, [186]), (7, .iconst 0, 1, []), (8, .istore_n 3, 1, []), (9, .iconst 0, 1, []), (10, .istore 4, 2, []), (12, .iload 4, 2, []), (14, .iload_n 2, 1, []), (15, .if_icmp .ge 87, 3, [55]), (18, .aload_n 0, 1, []), (19, .aload_n 0, 1, []), (20, .getfield 47, 3, [1224]), (23, .iload 4, 2, []), (25, .baload, 1, []), (26, .invokevirtual 462, 3, [284]), (29, .istore 5, 2, []), (31, .iload 5, 2, []), (33, .iconst 1, 1, []), (34, .if_icmp .eq 9, 3, [24]), (37, .iload 5, 2, []), (39, .iconst 3, 1, []), (40, .if_icmp .ne 7, 3, [26]), (43, .iconst 1, 1, []), (44, .goto 4, 3, [27]), (47, .iconst 0, 1, []), (48, .istore 6, 2, []), (50, .iload 5, 2, []), (52, .iconst (-1), 1, []), (53, .if_icmp .eq 19, 3, [38]), (56, .iload 6, 2, []), (58, .ifCond .eq 16, 3, [40]), (61, .aload_n 0, 1, []), (62, .bipush 122, 2, []), (64, .bipush 11, 2, []), (66, .invokevirtual 101, 3, [183]), (69, .ifCond .ne 5, 3, [40]), (72, .iconst (-1), 1, []), (73, .ireturn, 1, []), (74, .iload_n 3, 1, []), (75, .aload_n 0, 1, []), (76, .bipush 122, 2, []), (78, .bipush 123, 2, []), (80, .iload 5, 2, []), (82, .iconst 1, 1, []), (83, .invokevirtual 179, 3, [189]), (86, .iadd, 1, []), (87, .istore_n 3, 1, []), (88, .aload_n 0, 1, []), (89, .bipush 123, 2, []), (91, .bipush 122, 2, []), (93, .invokevirtual 108, 3, [186]), (96, .iinc 4 1, 3, []), (99, .goto (-87), 3, [8]), (102, .iload_n 3, 1, []), (103, .ireturn, 1, [])]
def p_Mo_walks : zz_P := (285, ⟨"TurnQueuesModel", "walks", "(II)I"⟩, prog_14_method_108_code, 7, (some .int), q_Mo_walks)
set_option maxRecDepth 100000 in
theorem k_Mo_walks : zz_okP p_Mo_walks := ⟨by decide +kernel, zz_mem_r [1631, 1382, 1994, 1635, 1627, 1631] rfl (by decide +kernel)⟩
set_option maxRecDepth 100000 in
theorem o_Mo_walks : zz_okC p_Mo_walks false 12 3 := zz_okV (zz_mem_r (ws := [Cond.code p_Mo_walks.y p_Mo_walks.bytes p_Mo_walks.maxL p_Mo_walks.ret, Cond.initialized p_Mo_walks.y.cls, Cond.instanceMethod p_Mo_walks.y, Cond.selects p_Mo_walks.y.cls p_Mo_walks.y p_Mo_walks.y]) [1993, 109, 1992, 91] rfl (by decide +kernel)) rfl rfl (by decide +kernel) (by decide +kernel) rfl (by decide +kernel) rfl
def q_Mo_walk : List zz_C := [(0, .aload_n 0, 1, []), (1, .iload_n 1, 1, []), (2, .invokevirtual 311, 3, [216]), (5, .ifCond .ne 6, 3, [6]), (8, .bipush (-2), 2, []), (10, .ireturn, 1, []), (11, .aload_n 0, 1, []), (12, .getfield 94, 3, [1203]), (15, .istore_n 2, 1, []), (16, .aload_n 0, 1, []), (17, .getfield 192, 3, [1225]), (20, .istore_n 3, 1, []), (21, .aload_n 0, 1, []), (22, .iconst 0, 1, []), (23, .putfield 192, 3, [1225]), (26, .aload_n 0, 1, []), (27, .iload_n 1, 1, []), (28, .iload_n 3, 1, []), (29, .invokevirtual 465, 3, [285]), (32, .istore 4, 2, []), (34, .aload_n 0, 1, []), (35, .iload_n 2, 1, []), (36, .putfield 94, 3, [1203]), (39, .iload 4, 2, []), (41, .ireturn, 1, [])]
def p_Mo_walk : zz_P := (286, ⟨"TurnQueuesModel", "walk", "(I)I"⟩, prog_14_method_109_code, 5, (some .int), q_Mo_walk)
set_option maxRecDepth 100000 in
theorem k_Mo_walk : zz_okP p_Mo_walk := ⟨by decide +kernel, zz_mem_r [1704, 1361, 1383, 1383, 1990, 1361] rfl (by decide +kernel)⟩
set_option maxRecDepth 100000 in
theorem o_Mo_walk : zz_okC p_Mo_walk false 12 2 := zz_okV (zz_mem_r (ws := [Cond.code p_Mo_walk.y p_Mo_walk.bytes p_Mo_walk.maxL p_Mo_walk.ret, Cond.initialized p_Mo_walk.y.cls, Cond.instanceMethod p_Mo_walk.y, Cond.selects p_Mo_walk.y.cls p_Mo_walk.y p_Mo_walk.y]) [1989, 109, 1987, 1988] rfl (by decide +kernel)) rfl rfl (by decide +kernel) (by decide +kernel) rfl (by decide +kernel) rfl
def q_Mo_isFull : List zz_C := [(0, .aload_n 0, 1, []), (1, .getfield 172, 3, [1215]), (4, .bipush 61, 2, []), (6, .if_icmp .ne 7, 3, [6]), (9, .iconst 1, 1, []), (10, .goto 4, 3, [7]), (13, .iconst 0, 1, []), (14, .ireturn, 1, [])]
def p_Mo_isFull : zz_P := (287, ⟨"TurnQueuesModel", "isFull", "()Z"⟩, prog_14_method_110_code, 1, (some .boolean), q_Mo_isFull)
set_option maxRecDepth 100000 in
theorem k_Mo_isFull : zz_okP p_Mo_isFull := ⟨by decide +kernel, zz_mem_r [1373] rfl (by decide +kernel)⟩
set_option maxRecDepth 100000 in
theorem o_Mo_isFull : zz_okC p_Mo_isFull false 12 1 := zz_okV (zz_mem_r (ws := [Cond.code p_Mo_isFull.y p_Mo_isFull.bytes p_Mo_isFull.maxL p_Mo_isFull.ret, Cond.initialized p_Mo_isFull.y.cls, Cond.instanceMethod p_Mo_isFull.y, Cond.selects p_Mo_isFull.y.cls p_Mo_isFull.y p_Mo_isFull.y]) [2006, 109, 2005, 93] rfl (by decide +kernel)) rfl rfl (by decide +kernel) (by decide +kernel) rfl (by decide +kernel) rfl
def q_Mo_put : List zz_C := [(0, .aload_n 0, 1, []), (1, .iload_n 1, 1, []), (2, .invokevirtual 311, 3, [216]), (5, .ifCond .eq 15, 3, [10]), (8, .iload_n 2, 1, []), (9, .i2l, 1, []), (10, .lconst 0, 1, []), (11, .ldc2_w 468, 3, [99]), (14, .invokestatic 195, 3, [180]), (17, .ifCond .ne 6, 3, [12]), (20, .bipush (-2), 2, []), (22, .ireturn, 1, []), (23, .aload_n 0, 1, []), (24, .invokevirtual 470, 3, [287]), (27, .ifCond .eq 6, 3, [17]), (30, .bipush (-5), 2, []), (32, .ireturn, 1, []), (33, .aload_n 0, 1, []), (34, .iload_n 1, 1, []), (35, .iconst 0, 1, []), (36, .iload_n 2, 1, []), (37, .invokevirtual 296, 3, [200]), (40, .pop, 1, []), (41, .aload_n 0, 1, []), (42, .getfield 172, 3, [1215]), (45, .iconst 1, 1, []), (46, .isub, 1, []), (47, .ireturn, 1, [])]
def p_Mo_put : zz_P := (288, ⟨"TurnQueuesModel", "put", "(II)I"⟩, prog_14_method_111_code, 3, (some .int), q_Mo_put)
set_option maxRecDepth 100000 in
theorem k_Mo_put : zz_okP p_Mo_put := ⟨by decide +kernel, zz_mem_r [1704, 2002, 1541, 2003, 1615, 1373] rfl (by decide +kernel)⟩
set_option maxRecDepth 100000 in
theorem o_Mo_put : zz_okC p_Mo_put false 12 3 := zz_okV (zz_mem_r (ws := [Cond.code p_Mo_put.y p_Mo_put.bytes p_Mo_put.maxL p_Mo_put.ret, Cond.initialized p_Mo_put.y.cls, Cond.instanceMethod p_Mo_put.y, Cond.selects p_Mo_put.y.cls p_Mo_put.y p_Mo_put.y]) [2001, 109, 1999, 2000] rfl (by decide +kernel)) rfl rfl (by decide +kernel) (by decide +kernel) rfl (by decide +kernel) rfl
def q_Mo_take : List zz_C := [(0, .aload_n 0, 1, []), (1, .iload_n 1, 1, []), (2, .invokevirtual 311, 3, [216]), (5, .ifCond .ne 6, 3, [6]), (8, .bipush (-2), 2, []), (10, .ireturn, 1, []), (11, .aload_n 0, 1, []), (12, .invokevirtual 470, 3, [287]), (15, .ifCond .ne 12, 3, [14]), (18, .aload_n 0, 1, []), (19, .getfield 44, 3, [1223]), (22, .iload_n 1, 1, []), (23, .iaload, 1, []), (24, .ifCond .ne 8, 3, [16]), (27, .bipush (-5), 2, []), (29, .goto 10, 3, [21]), (32, .aload_n 0, 1, []), (33, .iload_n 1, 1, []), (34, .iconst 1, 1, []), (35, .iconst 0, 1, []), (36, .invokevirtual 296, 3, [200]), (39, .ireturn, 1, [])]
def p_Mo_take : zz_P := (289, ⟨"TurnQueuesModel", "take", "(I)I"⟩, prog_14_method_112_code, 2, (some .int), q_Mo_take)
set_option maxRecDepth 100000 in
theorem k_Mo_take : zz_okP p_Mo_take := ⟨by decide +kernel, zz_mem_r [1704, 2003, 1381, 1615] rfl (by decide +kernel)⟩
set_option maxRecDepth 100000 in
theorem o_Mo_take : zz_okC p_Mo_take false 12 2 := zz_okV (zz_mem_r (ws := [Cond.code p_Mo_take.y p_Mo_take.bytes p_Mo_take.maxL p_Mo_take.ret, Cond.initialized p_Mo_take.y.cls, Cond.instanceMethod p_Mo_take.y, Cond.selects p_Mo_take.y.cls p_Mo_take.y p_Mo_take.y]) [2010, 109, 2008, 2009] rfl (by decide +kernel)) rfl rfl (by decide +kernel) (by decide +kernel) rfl (by decide +kernel) rfl
def q_Mo_fore : List zz_C := [(0, .aload_n 0, 1, []), (1, .iload_n 1, 1, []), (2, .invokevirtual 311, 3, [216]), (5, .ifCond .eq 23, 3, [14]), (8, .iload_n 2, 1, []), (9, .i2l, 1, []), (10, .lconst 0, 1, []), (11, .ldc2_w 468, 3, [99]), (14, .invokestatic 195, 3, [180]), (17, .ifCond .eq 11, 3, [14]), (20, .aload_n 0, 1, []), (21, .getfield 186, 3, [1211]), (24, .iconst 2, 1, []), (25, .if_icmp .ge 6, 3, [16]), (28, .bipush (-2), 2, []), (30, .ireturn, 1, []), (31, .aload_n 0, 1, []), (32, .invokevirtual 470, 3, [287]), (35, .ifCond .eq 6, 3, [21]), (38, .bipush (-5), 2, []), (40, .ireturn, 1, []), (41, .aload_n 0, 1, []), (42, .iload_n 1, 1, []), (43, .iconst 2, 1, []), (44, .iload_n 2, 1, []), (45, .invokevirtual 296, 3, [200]), (48, .pop, 1, []), (49, .aload_n 0, 1, []), (50, .getfield 172, 3, [1215]), (53, .iconst 1, 1, []), (54, .isub, 1, []), (55, .ireturn, 1, [])]
def p_Mo_fore : zz_P := (290, ⟨"TurnQueuesModel", "fore", "(II)I"⟩, prog_14_method_113_code, 3, (some .int), q_Mo_fore)
set_option maxRecDepth 100000 in
theorem k_Mo_fore : zz_okP p_Mo_fore := ⟨by decide +kernel, zz_mem_r [1704, 2002, 1541, 1369, 2003, 1615, 1373] rfl (by decide +kernel)⟩
set_option maxRecDepth 100000 in
theorem o_Mo_fore : zz_okC p_Mo_fore false 12 3 := zz_okV (zz_mem_r (ws := [Cond.code p_Mo_fore.y p_Mo_fore.bytes p_Mo_fore.maxL p_Mo_fore.ret, Cond.initialized p_Mo_fore.y.cls, Cond.instanceMethod p_Mo_fore.y, Cond.selects p_Mo_fore.y.cls p_Mo_fore.y p_Mo_fore.y]) [2014, 109, 2012, 2013] rfl (by decide +kernel)) rfl rfl (by decide +kernel) (by decide +kernel) rfl (by decide +kernel) rfl
def q_Mo_last : List zz_C := [(0, .aload_n 0, 1, []), (1, .iload_n 1, 1, []), (2, .invokevirtual 311, 3, [216]), (5, .ifCond .eq 11, 3, [8]), (8, .aload_n 0, 1, []), (9, .getfield 186, 3, [1211]), (12, .iconst 2, 1, []), (13, .if_icmp .ge 6, 3, [10]), (16, .bipush (-2), 2, []), (18, .ireturn, 1, []), (19, .aload_n 0, 1, []), (20, .invokevirtual 470, 3, [287]), (23, .ifCond .ne 12, 3, [18]), (26, .aload_n 0, 1, []), (27, .getfield 44, 3, [1223]), (30, .iload_n 1, 1, []), (31, .iaload, 1, []), (32, .ifCond .ne 8, 3, [20]), (35, .bipush (-5), 2, []), (37, .goto 10, 3, [25]), (40, .aload_n 0, 1, []), (41, .iload_n 1, 1, []), (42, .iconst 3, 1, []), (43, .iconst 0, 1, []), (44, .invokevirtual 296, 3, [200]), (47, .ireturn, 1, [])]
def p_Mo_last : zz_P := (291, ⟨"TurnQueuesModel", "last", "(I)I"⟩, prog_14_method_114_code, 2, (some .int), q_Mo_last)
set_option maxRecDepth 100000 in
theorem k_Mo_last : zz_okP p_Mo_last := ⟨by decide +kernel, zz_mem_r [1704, 1369, 2003, 1381, 1615] rfl (by decide +kernel)⟩
set_option maxRecDepth 100000 in
theorem o_Mo_last : zz_okC p_Mo_last false 12 2 := zz_okV (zz_mem_r (ws := [Cond.code p_Mo_last.y p_Mo_last.bytes p_Mo_last.maxL p_Mo_last.ret, Cond.initialized p_Mo_last.y.cls, Cond.instanceMethod p_Mo_last.y, Cond.selects p_Mo_last.y.cls p_Mo_last.y p_Mo_last.y]) [2018, 109, 2016, 2017] rfl (by decide +kernel)) rfl rfl (by decide +kernel) (by decide +kernel) rfl (by decide +kernel) rfl
def q_Mo_image : List zz_C := [(0, .iload_n 1, 1, []), (1, .i2l, 1, []), (2, .lconst 0, 1, []), (3, .ldc2_w 315, 3, [2]), (6, .invokestatic 195, 3, [180]), (9, .ifCond .eq 10, 3, [9]), (12, .aload_n 0, 1, []), (13, .invokevirtual 300, 3, [215]), (16, .ifCond .ne 6, 3, [11]), (19, .bipush (-2), 2, []), (21, .ireturn, 1, []), (22, .sipush 188, 3, []), (25, .iload_n 1, 1, []), (26, .imul, 1, []), (27, .istore_n 2, 1, []), (28, .aload_n 0, 1, []), (29, .getfield 88, 3, [1257]), (32, .iload_n 2, 1, []), (33, .aload_n 0, 1, []), (34, .getfield 186, 3, [1211]), (37, .iastore, 1, []), (38, .aload_n 0, 1, []), (39, .getfield 88, 3, [1257]), (42, .iload_n 2, 1, []), (43, .iconst 1, 1, []), (44, .iadd, 1, []), (45, .aload_n 0, 1, []), (46, .getfield 189, 3, [1212]), (49, .iastore, 1, []), (50, .aload_n 0, 1, []), (51, .getfield 88, 3, [1257]), (54, .iload_n 2, 1, []), (55, .iconst 2, 1, []), (56, .iadd, 1, []), (57, .aload_n 0, 1, []), (58, .getfield 287, 3, [1213]), (61, .iastore, 1, []), (62, .aload_n 0, 1, []), (63, .getfield 88, 3, [1257]), (66, .iload_n 2, 1, []), (67, .iconst 3, 1, []), (68, .iadd, 1, []), (69, .aload_n 0, 1, []), (70, .getfield 290, 3, [1214]), (73, .iastore, 1, []), (74, .aload_n 0, 1, []), (75, .getfield 88, 3, [1257]), (78, .iload_n 2, 1, []), (79, .iconst 4, 1, []), (80, .iadd, 1, []), (81, .aload_n 0, 1, []), (82, .getfield 172, 3, [1215]), (85, .iastore, 1, []), (86, .iconst 1, 1, []), (87, .istore_n 3, 1, []), (88, .iload_n 3, 1, []), (89, .aload_n 0, 1, []), (90, .getfield 172, 3, [1215]), (93, .if_icmp .ge 67, 3, [107]), (96, .aload_n 0, 1, []), (97, .getfield 88, 3, [1257]), (100, .iload_n 2, 1, []), (101, .iconst 5, 1, []), (102, .iadd, 1, []), (103, .iconst 3, 1, []), (104, .iload_n 3, 1, []), (105, .imul, 1, []), (106, .iadd, 1, []), (107, .aload_n 0, 1, []), (108, .getfield 22, 3, [1216]), (111, .iload_n 3, 1, []), (112, .iaload, 1, []), (113, .iastore, 1, []), (114, .aload_n 0, 1, []), (115, .getfield 88, 3, [1257]), (118, .iload_n 2, 1, []), (119, .iconst 5, 1, []), (120, .iadd, 1, []), (121, .iconst 3, 1, []), (122, .iload_n 3, 1, []), (123, .imul, 1, []), (124, .iadd, 1, []), (125, .iconst 1, 1, []), (126, .iadd, 1, []), (127, .aload_n 0, 1, []), (128, .getfield 25, 3, [1217]), (131, .iload_n 3, 1, []), (132, .iaload, 1, []), (133, .iastore, 1, []), (134, .aload_n 0, 1, []), (135, .getfield 88, 3, [1257]), (138, .iload_n 2, 1, []), (139, .iconst 5, 1, []), (140, .iadd, 1, []), (141, .iconst 3, 1, []), (142, .iload_n 3, 1, []), (143, .imul, 1, []), (144, .iadd, 1, []), (145, .iconst 2, 1, []), (146, .iadd, 1, []), (147, .aload_n 0, 1, []), (148, .getfield 28, 3, [1218]), (151, .iload_n 3, 1, []), (152, .iaload, 1, []), (153, .iastore, 1, []), (154, .iinc 3 1, 3, []), (157, .goto (-69), 3, [55]), (160, .iconst 0, 1, []), (161, .ireturn, 1, [])]
def p_Mo_image : zz_P := (292, ⟨"TurnQueuesModel", "image", "(I)I"⟩, prog_14_method_115_code, 4, (some .int), q_Mo_image)
set_option maxRecDepth 100000 in
theorem k_Mo_image : zz_okP p_Mo_image := ⟨by decide +kernel, zz_mem_r [1708, 1541, 1692, 1415, 1369, 1415, 1370, 1415, 1371, 1415, 1372, 1415, 1373, 1373, 1415, 1374, 1415, 1375, 1415, 1376] rfl (by decide +kernel)⟩
set_option maxRecDepth 100000 in
theorem o_Mo_image : zz_okC p_Mo_image false 12 2 := zz_okV (zz_mem_r (ws := [Cond.code p_Mo_image.y p_Mo_image.bytes p_Mo_image.maxL p_Mo_image.ret, Cond.initialized p_Mo_image.y.cls, Cond.instanceMethod p_Mo_image.y, Cond.selects p_Mo_image.y.cls p_Mo_image.y p_Mo_image.y]) [2022, 109, 2020, 2021] rfl (by decide +kernel)) rfl rfl (by decide +kernel) (by decide +kernel) rfl (by decide +kernel) rfl
def q_Mo_back : List zz_C := [(0, .iload_n 1, 1, []), (1, .i2l, 1, []), (2, .lconst 0, 1, []), (3, .ldc2_w 315, 3, [2]), (6, .invokestatic 195, 3, [180]), (9, .ifCond .ne 6, 3, [8]), (12, .bipush (-2), 2, []), (14, .ireturn, 1, []), (15, .sipush 188, 3, []), (18, .iload_n 1, 1, []), (19, .imul, 1, []), (20, .istore_n 2, 1, []), (21, .aload_n 0, 1, []), (22, .getfield 88, 3, [1257]), (25, .iload_n 2, 1, []), (26, .iconst 4, 1, []), (27, .iadd, 1, []), (28, .iaload, 1, []), (29, .ifCond .ne 6, 3, [21]), (32, .bipush (-6), 2, []), (34, .ireturn, 1, []), (35, .aload_n 0, 1, []), (36, .aload_n 0, 1, []), (37, .getfield 88, 3, [1257]), (40, .iload_n 2, 1, []), (41, .iaload, 1, []), (42, .putfield 186, 3, [1211]), (45, .aload_n 0, 1, []), (46, .aload_n 0, 1, []), (47, .getfield 88, 3, [1257]), (50, .iload_n 2, 1, []), (51, .iconst 1, 1, []), (52, .iadd, 1, []), (53, .iaload, 1, []), (54, .putfield 189, 3, [1212]), (57, .aload_n 0, 1, []), (58, .aload_n 0, 1, []), (59, .getfield 88, 3, [1257]), (62, .iload_n 2, 1, []), (63, .iconst 2, 1, []), (64, .iadd, 1, []), (65, .iaload, 1, []), (66, .putfield 287, 3, [1213]), (69, .aload_n 0, 1, []), (70, .aload_n 0, 1, []), (71, .getfield 88, 3, [1257]), (74, .iload_n 2, 1, []), (75, .iconst 3, 1, []), (76, .iadd, 1, []), (77, .iaload, 1, []), (78, .putfield 290, 3, [1214]), (81, .aload_n 0, 1, []), (82, .invokevirtual 293, 3, [201]), (85, .iconst 1, 1, []), (86, .istore_n 3, 1, []), (87, .iload_n 3, 1, []), (88, .aload_n 0, 1, []), (89, .getfield 88, 3, [1257]), (92, .iload_n 2, 1, []), (93, .iconst 4, 1, []), (94, .iadd, 1, []), (95, .iaload, 1, []), (96, .if_icmp .ge 54, 3, [102]), (99, .aload_n 0, 1, []), (100, .aload_n 0, 1, []), (101, .getfield 88, 3, [1257]), (104, .iload_n 2, 1, []), (105, .iconst 5, 1, []), (106, .iadd, 1, []), (107, .iconst 3, 1, []), (108, .iload_n 3, 1, []), (109, .imul, 1, []), (110, .iadd, 1, []), (111, .iaload, 1, []), (112, .aload_n 0, 1, []), (113, .getfield 88, 3, [1257]), (116, .iload_n 2, 1, []), (117, .iconst 5, 1, []), (118, .iadd, 1, []), (119, .iconst 3, 1, []), (120, .iload_n 3, 1, []), (121, .imul, 1, []), (122, .iadd, 1, []), (123, .iconst 1, 1, []), (124, .iadd, 1, []), (125, .iaload, 1, []), (126, .aload_n 0, 1, []), (127, .getfield 88, 3, [1257]), (130, .iload_n 2, 1, []), (131, .iconst 5, 1, []), (132, .iadd, 1, []), (133, .iconst 3, 1, []), (134, .iload_n 3, 1, []), (135, .imul, 1, []), (136, .iadd, 1, []), (137, .iconst 2, 1, []), (138, .iadd, 1, []), (139, .iaload, 1, []), (140, .invokevirtual 296, 3, [200]), (143, .pop, 1, []), (144, .iinc 3 1, 3, []), (147, .goto (-60), 3, [55]), (150, .iconst 0, 1, []), (151, .ireturn, 1, [])]
def p_Mo_back : zz_P := (293, ⟨"TurnQueuesModel", "back", "(I)I"⟩, prog_14_method_116_code, 4, (some .int), q_Mo_back)
set_option maxRecDepth 100000 in
theorem k_Mo_back : zz_okP p_Mo_back := ⟨by decide +kernel, zz_mem_r [1708, 1541, 1415, 1415, 1369, 1415, 1370, 1415, 1371, 1415, 1372, 1603, 1415, 1415, 1415, 1415, 1615] rfl (by decide +kernel)⟩
set_option maxRecDepth 100000 in
theorem o_Mo_back : zz_okC p_Mo_back false 12 2 := zz_okV (zz_mem_r (ws := [Cond.code p_Mo_back.y p_Mo_back.bytes p_Mo_back.maxL p_Mo_back.ret, Cond.initialized p_Mo_back.y.cls, Cond.instanceMethod p_Mo_back.y, Cond.selects p_Mo_back.y.cls p_Mo_back.y p_Mo_back.y]) [2026, 109, 2024, 2025] rfl (by decide +kernel)) rfl rfl (by decide +kernel) (by decide +kernel) rfl (by decide +kernel) rfl
def q_Mo_takesBack : List zz_C := [(0, .aload_n 0, 1, []), (1, .dup, 1, []), (2, .getfield 172, 3, [1215]), (5, .iconst 1, 1, []), (6, .isub, 1, []), (7, .putfield 172, 3, [1215]), (10, .aload_n 0, 1, []), (11, .aload_n 0, 1, []), (12, .getfield 38, 3, [1221]), (15, .aload_n 0, 1, []), (16, .getfield 172, 3, [1215]), (19, .iaload, 1, []), (20, .putfield 94, 3, [1203]), (23, .return_, 1, [])]
def p_Mo_takesBack : zz_P := (294, ⟨"TurnQueuesModel", "takesBack", "()V"⟩, prog_14_method_117_code, 1, none, q_Mo_takesBack)
set_option maxRecDepth 100000 in
theorem k_Mo_takesBack : zz_okP p_Mo_takesBack := ⟨by decide +kernel, zz_mem_r [1373, 1373, 1379, 1373, 1361] rfl (by decide +kernel)⟩
set_option maxRecDepth 100000 in
theorem o_Mo_takesBack : zz_okC p_Mo_takesBack false 12 1 := zz_okV (zz_mem_r (ws := [Cond.code p_Mo_takesBack.y p_Mo_takesBack.bytes p_Mo_takesBack.maxL p_Mo_takesBack.ret, Cond.initialized p_Mo_takesBack.y.cls, Cond.instanceMethod p_Mo_takesBack.y, Cond.selects p_Mo_takesBack.y.cls p_Mo_takesBack.y p_Mo_takesBack.y]) [2034, 109, 2033, 94] rfl (by decide +kernel)) rfl rfl (by decide +kernel) (by decide +kernel) rfl (by decide +kernel) rfl
def q_Mo_undo : List zz_C := [(0, .aload_n 0, 1, []), (1, .invokevirtual 300, 3, [215]), (4, .ifCond .ne 6, 3, [5]), (7, .bipush (-2), 2, []), (9, .ireturn, 1, []), (10, .aload_n 0, 1, []), (11, .invokevirtual 308, 3, [217]), (14, .aload_n 0, 1, []), (15, .getfield 290, 3, [1214]), (18, .if_icmp .ne 6, 3, [12]), (21, .bipush (-5), 2, []), (23, .ireturn, 1, []), (24, .aload_n 0, 1, []), (25, .invokevirtual 473, 3, [294]), (28, .aload_n 0, 1, []), (29, .invokevirtual 308, 3, [217]), (32, .aload_n 0, 1, []), (33, .getfield 290, 3, [1214]), (36, .isub, 1, []), (37, .ireturn, 1, [])]
def p_Mo_undo : zz_P := (295, ⟨"TurnQueuesModel", "undo", "()I"⟩, prog_14_method_118_code, 1, (some .int), q_Mo_undo)
set_option maxRecDepth 100000 in
theorem k_Mo_undo : zz_okP p_Mo_undo := ⟨by decide +kernel, zz_mem_r [1692, 1696, 1372, 2031, 1696, 1372] rfl (by decide +kernel)⟩
set_option maxRecDepth 100000 in
theorem o_Mo_undo : zz_okC p_Mo_undo false 12 1 := zz_okV (zz_mem_r (ws := [Cond.code p_Mo_undo.y p_Mo_undo.bytes p_Mo_undo.maxL p_Mo_undo.ret, Cond.initialized p_Mo_undo.y.cls, Cond.instanceMethod p_Mo_undo.y, Cond.selects p_Mo_undo.y.cls p_Mo_undo.y p_Mo_undo.y]) [2030, 109, 2028, 2029] rfl (by decide +kernel)) rfl rfl (by decide +kernel) (by decide +kernel) rfl (by decide +kernel) rfl
def q_Mo_anew : List zz_C := [(0, .aload_n 0, 1, []), (1, .invokevirtual 300, 3, [215]), (4, .ifCond .ne 6, 3, [5]), (7, .bipush (-2), 2, []), (9, .ireturn, 1, []), (10, .aload_n 0, 1, []), (11, .invokevirtual 308, 3, [217]), (14, .aload_n 0, 1, []), (15, .getfield 290, 3, [1214]), (18, .isub, 1, []), (19, .istore_n 1, 1, []), (20, .aload_n 0, 1, []), (21, .invokevirtual 308, 3, [217]), (24, .aload_n 0, 1, []), (25, .getfield 290, 3, [1214]), (28, .if_icmp .le 10, 3, [19]), (31, .aload_n 0, 1, []), (32, .invokevirtual 473, 3, [294]), (35, .goto (-15), 3, [11]), (38, .iload_n 1, 1, []), (39, .ireturn, 1, [])]
def p_Mo_anew : zz_P := (296, ⟨"TurnQueuesModel", "anew", "()I"⟩, prog_14_method_119_code, 2, (some .int), q_Mo_anew)
set_option maxRecDepth 100000 in
theorem k_Mo_anew : zz_okP p_Mo_anew := ⟨by decide +kernel, zz_mem_r [1692, 1696, 1372, 1696, 1372, 2031] rfl (by decide +kernel)⟩
set_option maxRecDepth 100000 in
theorem o_Mo_anew : zz_okC p_Mo_anew false 12 1 := zz_okV (zz_mem_r (ws := [Cond.code p_Mo_anew.y p_Mo_anew.bytes p_Mo_anew.maxL p_Mo_anew.ret, Cond.initialized p_Mo_anew.y.cls, Cond.instanceMethod p_Mo_anew.y, Cond.selects p_Mo_anew.y.cls p_Mo_anew.y p_Mo_anew.y]) [2038, 109, 2036, 2037] rfl (by decide +kernel)) rfl rfl (by decide +kernel) (by decide +kernel) rfl (by decide +kernel) rfl
end
section
/-! several steps at once; reading what was written; what a method leaves as it was -/
def zz_sn : Nat → List zz_C → Nat → List zz_V → List zz_V → zz_M → Option (Nat × List zz_V × List zz_V × zz_M)
  | 0, _, j, ls, st, σ => some (j, ls, st, σ)
  | n + 1, c, j, ls, st, σ => match zz_s1 c j ls st σ with
    | some (j', ls', st', σ') => zz_sn n c j' ls' st' σ'
    | none => none
theorem zz_gsn (n : Nat) {X : zz_X} {d : Nat} {P : zz_P} {Post : Option zz_V → zz_M → Prop} : ∀ {j : Nat} {ls st : List zz_V} {σ : zz_M} {j' : Nat} {ls' st' : List zz_V} {σ' : zz_M}, zz_sn n P.code j ls st σ = some (j', ls', st', σ') → zz_G X d P j' ls' st' σ' Post → zz_G X d P j ls st σ Post := by
  induction n with
  | zero =>
    intro j ls st σ j' ls' st' σ' h k
    cases h
    exact k
  | succ n ih =>
    intro j ls st σ j' ls' st' σ' h k
    unfold zz_sn at h
    cases hs : zz_s1 P.code j ls st σ with
    | none => rw [hs] at h; cases h
    | some r =>
      obtain ⟨j1, ls1, st1, σ1⟩ := r
      rw [hs] at h
      exact zz_gs hs (ih h k)
theorem sf_1 (σ : zz_M) (f a : Nat) (v : Int) (f' a' : Nat) : (zz_sf σ f a v).1 f' a' = if f' = f ∧ a' = a then v else σ.1 f' a' := rfl
theorem sf_2 (σ : zz_M) (f a : Nat) (v : Int) : (zz_sf σ f a v).2 = σ.2 := rfl
theorem sa_1 (σ : zz_M) (a i : Nat) (v : Int) : (zz_sa σ a i v).1 = σ.1 := rfl
theorem sa_2 (σ : zz_M) (a i : Nat) (v : Int) (a' i' : Nat) : (zz_sa σ a i v).2 a' i' = if a' = a ∧ i' = i then v else σ.2 a' i' := rfl
/-- outside of A nothing has changed -/
def zz_F (A : Nat → Prop) (σ σ' : zz_M) : Prop := ∀ a, ¬ A a → (∀ f, σ'.1 f a = σ.1 f a) ∧ (∀ i, σ'.2 a i = σ.2 a i)
theorem zz_F.rf {A : Nat → Prop} {σ : zz_M} : zz_F A σ σ := fun _ _ => ⟨fun _ => rfl, fun _ => rfl⟩
theorem zz_F.tr {A : Nat → Prop} {σ σ1 σ2 : zz_M} (h : zz_F A σ σ1) (h2 : zz_F A σ1 σ2) : zz_F A σ σ2 := fun a ha => ⟨fun f => ((h2 a ha).1 f).trans ((h a ha).1 f), fun i => ((h2 a ha).2 i).trans ((h a ha).2 i)⟩
theorem zz_F.mono {A B : Nat → Prop} {σ σ' : zz_M} (h : zz_F A σ σ') (hAB : ∀ a, A a → B a) : zz_F B σ σ' := fun a ha => h a (fun z => ha (hAB a z))
theorem zz_F.sf {A : Nat → Prop} {σ : zz_M} {f a : Nat} {v : Int} (h : A a) : zz_F A σ (zz_sf σ f a v) := fun b hb => ⟨fun f' => by
  have e : ¬ (f' = f ∧ b = a) := fun z => hb (by rw [z.2]; exact h)
  rw [sf_1, if_neg e], fun _ => rfl⟩
theorem zz_F.sa {A : Nat → Prop} {σ : zz_M} {a i : Nat} {v : Int} (h : A a) : zz_F A σ (zz_sa σ a i v) := fun b hb => ⟨fun _ => rfl, fun i' => by
  have e : ¬ (b = a ∧ i' = i) := fun z => hb (by rw [z.1]; exact h)
  rw [sa_2, if_neg e]⟩
end
section
/-! leaves of the class -/
theorem t_Deeds_hasDeed {X : zz_X} {σ : zz_M} {a : Nat} {v : Int}  : zz_T X 1 p_Deeds_hasDeed [zP 2 0 0 a, zI v] σ (fun r σ' => σ = σ' ∧ ∃ n : Int, r = some (zI n) ∧ ((n = 1 ∧ 0 ≤ v ∧ v < σ.1 204 a ∧ v < 60) ∨ (n = 0 ∧ ¬ (0 ≤ v ∧ v < σ.1 204 a ∧ v < 60)))) := by
  refine zz_mk k_Deeds_hasDeed o_Deeds_hasDeed rfl rfl (Nat.le_of_ble_eq_true rfl) ?_
  show zz_G X 1 p_Deeds_hasDeed 0 [zP 2 0 0 a, zI v] [] σ _
  refine zz_gsn 1 rfl ?_
  refine zz_br rfl (fun h1 => ?_) (fun h1 => ?_)
  · refine zz_gsn 1 rfl ?_
    refine zz_ri rfl (Or.inr ⟨rfl, by first | exact Or.inl rfl | exact Or.inr rfl | omega⟩) ?_
    exact ⟨rfl, _, rfl, by omega⟩
  · refine zz_gsn 3 rfl ?_
    refine zz_br rfl (fun h5 => ?_) (fun h5 => ?_)
    · refine zz_gsn 1 rfl ?_
      refine zz_ri rfl (Or.inr ⟨rfl, by first | exact Or.inl rfl | exact Or.inr rfl | omega⟩) ?_
      exact ⟨rfl, _, rfl, by omega⟩
    · refine zz_gsn 2 rfl ?_
      refine zz_br rfl (fun h8 => ?_) (fun h8 => ?_)
      · refine zz_gsn 1 rfl ?_
        refine zz_ri rfl (Or.inr ⟨rfl, by first | exact Or.inl rfl | exact Or.inr rfl | omega⟩) ?_
        exact ⟨rfl, _, rfl, by omega⟩
      · refine zz_gsn 1 rfl ?_
        refine zz_jp rfl ?_
        refine zz_ri rfl (Or.inr ⟨rfl, by first | exact Or.inl rfl | exact Or.inr rfl | omega⟩) ?_
        exact ⟨rfl, _, rfl, by omega⟩
theorem t_Deeds_versions {X : zz_X} {σ : zz_M} {a : Nat}  : zz_T X 1 p_Deeds_versions [zP 2 0 0 a] σ (fun r σ' => σ = σ' ∧ ∃ n : Int, r = some (zI n) ∧ ((σ.1 200 a ≠ 0 ∧ n = zw (σ.1 204 a + 1)) ∨ (σ.1 200 a = 0 ∧ n = 0))) := by
  refine zz_mk k_Deeds_versions o_Deeds_versions rfl rfl (Nat.le_of_ble_eq_true rfl) ?_
  show zz_G X 1 p_Deeds_versions 0 [zP 2 0 0 a] [] σ _
  refine zz_gsn 2 rfl ?_
  refine zz_br rfl (fun h2 => ?_) (fun h2 => ?_)
  · refine zz_gsn 1 rfl ?_
    refine zz_ri rfl (Or.inl rfl) ?_
    exact ⟨rfl, _, rfl, by omega⟩
  · refine zz_gsn 4 rfl ?_
    refine zz_jp rfl ?_
    refine zz_ri rfl (Or.inl rfl) ?_
    exact ⟨rfl, _, rfl, by omega⟩
theorem t_Deeds_lines {X : zz_X} {σ : zz_M} {a : Nat}  : zz_T X 1 p_Deeds_lines [zP 2 0 0 a] σ (fun r σ' => σ = σ' ∧ ∃ n : Int, r = some (zI n) ∧ ((σ.1 200 a ≠ 0 ∧ n = zw (σ.1 203 a + 1)) ∨ (σ.1 200 a = 0 ∧ n = 0))) := by
  refine zz_mk k_Deeds_lines o_Deeds_lines rfl rfl (Nat.le_of_ble_eq_true rfl) ?_
  show zz_G X 1 p_Deeds_lines 0 [zP 2 0 0 a] [] σ _
  refine zz_gsn 2 rfl ?_
  refine zz_br rfl (fun h2 => ?_) (fun h2 => ?_)
  · refine zz_gsn 1 rfl ?_
    refine zz_ri rfl (Or.inl rfl) ?_
    exact ⟨rfl, _, rfl, by omega⟩
  · refine zz_gsn 4 rfl ?_
    refine zz_jp rfl ?_
    refine zz_ri rfl (Or.inl rfl) ?_
    exact ⟨rfl, _, rfl, by omega⟩
theorem t_Deeds_acts {X : zz_X} {σ : zz_M} {a : Nat}  : zz_T X 1 p_Deeds_acts [zP 2 0 0 a] σ (fun r σ' => σ = σ' ∧ r = some (zI (zw (σ.1 204 a - σ.1 203 a)))) := by
  refine zz_mk k_Deeds_acts o_Deeds_acts rfl rfl (Nat.le_of_ble_eq_true rfl) ?_
  show zz_G X 1 p_Deeds_acts 0 [zP 2 0 0 a] [] σ _
  refine zz_gsn 5 rfl ?_
  refine zz_ri rfl (Or.inl rfl) ?_
  exact ⟨rfl, rfl⟩
theorem t_Deeds_hasVersion {X : zz_X} {σ : zz_M} {a : Nat} {v : Int}  : zz_T X 2 p_Deeds_hasVersion [zP 2 0 0 a, zI v] σ (fun r σ' => σ = σ' ∧ ∃ n : Int, r = some (zI n) ∧ ((n = 1 ∧ 0 ≤ v ∧ v < 61 ∧ σ.1 200 a ≠ 0 ∧ v < zw (σ.1 204 a + 1)) ∨ (n = 0 ∧ ¬ (0 ≤ v ∧ v < 61 ∧ σ.1 200 a ≠ 0 ∧ v < zw (σ.1 204 a + 1))))) := by
  refine zz_mk k_Deeds_hasVersion o_Deeds_hasVersion rfl rfl (Nat.le_of_ble_eq_true rfl) ?_
  show zz_G X 2 p_Deeds_hasVersion 0 [zP 2 0 0 a, zI v] [] σ _
  refine zz_gsn 1 rfl ?_
  refine zz_br rfl (fun h1 => ?_) (fun h1 => ?_)
  · refine zz_gsn 1 rfl ?_
    refine zz_ri rfl (Or.inr ⟨rfl, by first | exact Or.inl rfl | exact Or.inr rfl | omega⟩) ?_
    exact ⟨rfl, _, rfl, by omega⟩
  · refine zz_gsn 2 rfl ?_
    refine zz_cv (n := 1) rfl rfl (t_Deeds_versions) (Nat.le_of_ble_eq_true rfl) (Nat.le_of_ble_eq_true rfl) (Nat.le_of_ble_eq_true rfl) (fun r4 σ4 q4 => ?_)
    obtain ⟨rfl, n4, rfl, e4⟩ := q4
    refine zz_br rfl (fun h5 => ?_) (fun h5 => ?_)
    · refine zz_gsn 1 rfl ?_
      refine zz_ri rfl (Or.inr ⟨rfl, by first | exact Or.inl rfl | exact Or.inr rfl | omega⟩) ?_
      exact ⟨rfl, _, rfl, by omega⟩
    · refine zz_gsn 2 rfl ?_
      refine zz_br rfl (fun h8 => ?_) (fun h8 => ?_)
      · refine zz_gsn 1 rfl ?_
        refine zz_ri rfl (Or.inr ⟨rfl, by first | exact Or.inl rfl | exact Or.inr rfl | omega⟩) ?_
        exact ⟨rfl, _, rfl, by omega⟩
      · refine zz_gsn 1 rfl ?_
        refine zz_jp rfl ?_
        refine zz_ri rfl (Or.inr ⟨rfl, by first | exact Or.inl rfl | exact Or.inr rfl | omega⟩) ?_
        exact ⟨rfl, _, rfl, by omega⟩
theorem t_Deeds_baseOf {X : zz_X} {σ : zz_M} {a : Nat} {v : Int} (hv : -2147483648 < v ∧ v < 2147483648) : zz_T X 2 p_Deeds_baseOf [zP 2 0 0 a, zI v] σ (fun r σ' => σ = σ' ∧ ∃ n : Int, r = some (zI n) ∧ ((1 ≤ v ∧ v ≤ σ.1 204 a ∧ v ≤ 60 ∧ n = σ.2 (a + 2) (zw (v - 1)).toNat) ∨ (¬ (1 ≤ v ∧ v ≤ σ.1 204 a ∧ v ≤ 60) ∧ n = -1))) := by
  refine zz_mk k_Deeds_baseOf o_Deeds_baseOf rfl rfl (Nat.le_of_ble_eq_true rfl) ?_
  show zz_G X 2 p_Deeds_baseOf 0 [zP 2 0 0 a, zI v] [] σ _
  have hw := zw_id (x := v - 1) (by omega) (by omega)
  refine zz_gsn 4 rfl ?_
  refine zz_cv (n := 2) rfl rfl (t_Deeds_hasDeed) (Nat.le_of_ble_eq_true rfl) (Nat.le_of_ble_eq_true rfl) (Nat.le_of_ble_eq_true rfl) (fun r4 σ4 q4 => ?_)
  obtain ⟨rfl, n4, rfl, e4⟩ := q4
  refine zz_br rfl (fun h5 => ?_) (fun h5 => ?_)
  · refine zz_gsn 1 rfl ?_
    refine zz_ri rfl (Or.inl rfl) ?_
    exact ⟨rfl, _, rfl, by omega⟩
  · refine zz_gsn 5 rfl ?_
    refine zz_ald rfl (by omega) ?_
    refine zz_jp rfl ?_
    refine zz_ri rfl (Or.inl rfl) ?_
    exact ⟨rfl, _, rfl, by omega⟩
theorem t_Deeds_clear {X : zz_X} {σ : zz_M} {a : Nat}  : zz_T X 1 p_Deeds_clear [zP 2 0 0 a] σ (fun r σ' => r = none ∧ σ' = zz_sf (zz_sf (zz_sf (zz_sf (zz_sf σ 200 a 0) 201 a 0) 202 a 0) 203 a 0) 204 a 0) := by
  refine zz_mk k_Deeds_clear o_Deeds_clear rfl rfl (Nat.le_of_ble_eq_true rfl) ?_
  show zz_G X 1 p_Deeds_clear 0 [zP 2 0 0 a] [] σ _
  refine zz_gsn 2 rfl ?_
  refine zz_ptz rfl (by first | exact Or.inl rfl | exact Or.inr rfl | omega) ?_
  refine zz_gsn 12 rfl ?_
  refine zz_rv rfl rfl ?_
  exact ⟨rfl, rfl⟩
theorem t_Row_become {X : zz_X} {σ : zz_M} {a b : Nat}  : zz_T X 1 p_Row_become [zP 7 0 0 a, zP 7 0 0 b] σ (fun r σ' => r = none ∧ σ' = zz_sf (zz_sf σ 700 a (σ.1 700 b)) 701 a (σ.1 701 b)) := by
  refine zz_mk k_Row_become o_Row_become rfl rfl (Nat.le_of_ble_eq_true rfl) ?_
  show zz_G X 1 p_Row_become 0 [zP 7 0 0 a, zP 7 0 0 b] [] σ _
  refine zz_gsn 8 rfl ?_
  refine zz_rv rfl rfl ?_
  exact ⟨rfl, rfl⟩
theorem t_Row_clear {X : zz_X} {σ : zz_M} {a : Nat}  : zz_T X 1 p_Row_clear [zP 7 0 0 a] σ (fun r σ' => r = none ∧ σ' = zz_sf (zz_sf σ 700 a (-1)) 701 a 0) := by
  refine zz_mk k_Row_clear o_Row_clear rfl rfl (Nat.le_of_ble_eq_true rfl) ?_
  show zz_G X 1 p_Row_clear 0 [zP 7 0 0 a] [] σ _
  refine zz_gsn 6 rfl ?_
  refine zz_rv rfl rfl ?_
  exact ⟨rfl, rfl⟩
theorem t_Cells_numberOf {X : zz_X} {σ : zz_M} {p c : Nat} {v : Int}  : zz_T X 1 p_Cells_numberOf [zP 1 p 0 c, zI v] σ (fun r σ' => σ = σ' ∧ ∃ n : Int, r = some (zI n) ∧ ((0 ≤ v ∧ v < p ∧ n = σ.2 (c + 1) v.toNat) ∨ (¬ (0 ≤ v ∧ v < p) ∧ n = -1))) := by
  refine zz_mk k_Cells_numberOf o_Cells_numberOf rfl rfl (Nat.le_of_ble_eq_true rfl) ?_
  show zz_G X 1 p_Cells_numberOf 0 [zP 1 p 0 c, zI v] [] σ _
  refine zz_gsn 1 rfl ?_
  refine zz_br rfl (fun h1 => ?_) (fun h1 => ?_)
  · refine zz_gsn 1 rfl ?_
    refine zz_ri rfl (Or.inl rfl) ?_
    exact ⟨rfl, _, rfl, by omega⟩
  · refine zz_gsn 4 rfl ?_
    refine zz_br rfl (fun h6 => ?_) (fun h6 => ?_)
    · refine zz_gsn 1 rfl ?_
      refine zz_ri rfl (Or.inl rfl) ?_
      exact ⟨rfl, _, rfl, by omega⟩
    · refine zz_gsn 3 rfl ?_
      refine zz_ald rfl (by omega) ?_
      refine zz_jp rfl ?_
      refine zz_ri rfl (Or.inl rfl) ?_
      exact ⟨rfl, _, rfl, by omega⟩
theorem t_Cells_makerOf {X : zz_X} {σ : zz_M} {p c : Nat} {v : Int}  : zz_T X 1 p_Cells_makerOf [zP 1 p 0 c, zI v] σ (fun r σ' => σ = σ' ∧ ∃ n : Int, r = some (zI n) ∧ ((0 ≤ v ∧ v < p ∧ n = σ.2 (c + 3) v.toNat) ∨ (¬ (0 ≤ v ∧ v < p) ∧ n = -1))) := by
  refine zz_mk k_Cells_makerOf o_Cells_makerOf rfl rfl (Nat.le_of_ble_eq_true rfl) ?_
  show zz_G X 1 p_Cells_makerOf 0 [zP 1 p 0 c, zI v] [] σ _
  refine zz_gsn 1 rfl ?_
  refine zz_br rfl (fun h1 => ?_) (fun h1 => ?_)
  · refine zz_gsn 1 rfl ?_
    refine zz_ri rfl (Or.inl rfl) ?_
    exact ⟨rfl, _, rfl, by omega⟩
  · refine zz_gsn 4 rfl ?_
    refine zz_br rfl (fun h6 => ?_) (fun h6 => ?_)
    · refine zz_gsn 1 rfl ?_
      refine zz_ri rfl (Or.inl rfl) ?_
      exact ⟨rfl, _, rfl, by omega⟩
    · refine zz_gsn 3 rfl ?_
      refine zz_ald rfl (by omega) ?_
      refine zz_jp rfl ?_
      refine zz_ri rfl (Or.inl rfl) ?_
      exact ⟨rfl, _, rfl, by omega⟩
theorem t_Cells_behind {X : zz_X} {σ : zz_M} {p c : Nat} {v : Int}  : zz_T X 1 p_Cells_behind [zP 1 p 0 c, zI v] σ (fun r σ' => σ = σ' ∧ ∃ n : Int, r = some (zI n) ∧ ((0 ≤ v ∧ v < p ∧ n = σ.2 (c + 2) v.toNat) ∨ (¬ (0 ≤ v ∧ v < p) ∧ n = -1))) := by
  refine zz_mk k_Cells_behind o_Cells_behind rfl rfl (Nat.le_of_ble_eq_true rfl) ?_
  show zz_G X 1 p_Cells_behind 0 [zP 1 p 0 c, zI v] [] σ _
  refine zz_gsn 1 rfl ?_
  refine zz_br rfl (fun h1 => ?_) (fun h1 => ?_)
  · refine zz_gsn 1 rfl ?_
    refine zz_ri rfl (Or.inl rfl) ?_
    exact ⟨rfl, _, rfl, by omega⟩
  · refine zz_gsn 4 rfl ?_
    refine zz_br rfl (fun h6 => ?_) (fun h6 => ?_)
    · refine zz_gsn 1 rfl ?_
      refine zz_ri rfl (Or.inl rfl) ?_
      exact ⟨rfl, _, rfl, by omega⟩
    · refine zz_gsn 3 rfl ?_
      refine zz_ald rfl (by omega) ?_
      refine zz_jp rfl ?_
      refine zz_ri rfl (Or.inl rfl) ?_
      exact ⟨rfl, _, rfl, by omega⟩
theorem t_Cells_unmarkAll {X : zz_X} {σ : zz_M} {p c : Nat}  : zz_T X 1 p_Cells_unmarkAll [zP 1 p 0 c] σ (fun r σ' => r = none ∧ σ' = zz_sf σ 105 c (zw (σ.1 105 c + 1))) := by
  refine zz_mk k_Cells_unmarkAll o_Cells_unmarkAll rfl rfl (Nat.le_of_ble_eq_true rfl) ?_
  show zz_G X 1 p_Cells_unmarkAll 0 [zP 1 p 0 c] [] σ _
  refine zz_gsn 6 rfl ?_
  refine zz_rv rfl rfl ?_
  exact ⟨rfl, rfl⟩
theorem t_Cells_add {X : zz_X} {σ : zz_M} {p c r : Nat} {x mk : Int}  : zz_T X 1 p_Cells_add [zP 1 p 0 c, zP 7 0 0 r, zI x, zI mk] σ (fun r_ σ' => r_ = none ∧ ((0 ≤ σ.1 100 c ∧ σ.1 100 c < p ∧ σ' = zz_sf (zz_sf (zz_sf (zz_sa (zz_sa (zz_sa σ (c + 1) (σ.1 100 c).toNat x) (c + 2) (σ.1 100 c).toNat (σ.1 700 r)) (c + 3) (σ.1 100 c).toNat mk) 100 c (zw (σ.1 100 c + 1))) 700 r (σ.1 100 c)) 701 r (zw (σ.1 701 r + 1))) ∨ (¬ (0 ≤ σ.1 100 c ∧ σ.1 100 c < p) ∧ σ' = zz_sf (zz_sf σ 700 r (-1)) 701 r (zw (σ.1 701 r + 1))))) := by
  refine zz_mk k_Cells_add o_Cells_add rfl rfl (Nat.le_of_ble_eq_true rfl) ?_
  show zz_G X 1 p_Cells_add 0 [zP 1 p 0 c, zP 7 0 0 r, zI x, zI mk, zU] [] σ _
  refine zz_gsn 4 rfl ?_
  refine zz_br rfl (fun h4 => ?_) (fun h4 => ?_)
  · refine zz_gsn 9 rfl ?_
    refine zz_rv rfl rfl ?_
    exact ⟨rfl, Or.inr ⟨by omega, rfl⟩⟩
  · refine zz_gsn 5 rfl ?_
    refine zz_br rfl (fun h10 => ?_) (fun h10 => ?_)
    · refine zz_gsn 9 rfl ?_
      refine zz_rv rfl rfl ?_
      exact ⟨rfl, Or.inr ⟨by omega, rfl⟩⟩
    · refine zz_gsn 7 rfl ?_
      refine zz_ast rfl (by omega) ?_
      refine zz_gsn 5 rfl ?_
      refine zz_ast rfl (by omega) ?_
      refine zz_gsn 4 rfl ?_
      refine zz_ast rfl (by omega) ?_
      refine zz_gsn 15 rfl ?_
      refine zz_rv rfl rfl ?_
      exact ⟨rfl, Or.inl ⟨by omega, by omega, rfl⟩⟩
theorem t_Cells_dropFirst {X : zz_X} {σ : zz_M} {p c r : Nat}  : zz_T X 1 p_Cells_dropFirst [zP 1 p 0 c, zP 7 0 0 r] σ (fun r_ σ' => r_ = none ∧ ((0 < σ.1 701 r ∧ ∃ w : Int, ((0 ≤ σ.1 700 r ∧ σ.1 700 r < p ∧ w = σ.2 (c + 2) (σ.1 700 r).toNat) ∨ (¬ (0 ≤ σ.1 700 r ∧ σ.1 700 r < p) ∧ w = -1)) ∧ σ' = zz_sf (zz_sf σ 700 r w) 701 r (zw (σ.1 701 r - 1))) ∨ (σ.1 701 r ≤ 0 ∧ σ' = σ))) := by
  refine zz_mk k_Cells_dropFirst o_Cells_dropFirst rfl rfl (Nat.le_of_ble_eq_true rfl) ?_
  show zz_G X 1 p_Cells_dropFirst 0 [zP 1 p 0 c, zP 7 0 0 r, zU] [] σ _
  refine zz_gsn 5 rfl ?_
  refine zz_br rfl (fun h5 => ?_) (fun h5 => ?_)
  · refine zz_rv rfl rfl ?_
    exact ⟨rfl, Or.inr ⟨by omega, rfl⟩⟩
  · refine zz_gsn 2 rfl ?_
    refine zz_br rfl (fun h8 => ?_) (fun h8 => ?_)
    · refine zz_gsn 8 rfl ?_
      refine zz_rv rfl rfl ?_
      exact ⟨rfl, Or.inl ⟨by omega, _, by omega, rfl⟩⟩
    · refine zz_gsn 4 rfl ?_
      refine zz_br rfl (fun h13 => ?_) (fun h13 => ?_)
      · refine zz_gsn 8 rfl ?_
        refine zz_rv rfl rfl ?_
        exact ⟨rfl, Or.inl ⟨by omega, _, by omega, rfl⟩⟩
      · refine zz_gsn 3 rfl ?_
        refine zz_ald rfl (by omega) ?_
        refine zz_jp rfl ?_
        refine zz_gsn 7 rfl ?_
        refine zz_rv rfl rfl ?_
        exact ⟨rfl, Or.inl ⟨by omega, _, by omega, rfl⟩⟩
theorem t_Numbers_numberAt {X : zz_X} {σ : zz_M} {p a : Nat} {v : Int}  : zz_T X 1 p_Numbers_numberAt [zP 5 p 0 a, zI v] σ (fun r σ' => σ = σ' ∧ ∃ n : Int, r = some (zI n) ∧ ((0 ≤ v ∧ v < σ.1 500 a ∧ v < p ∧ n = σ.2 (a + 1) v.toNat) ∨ (¬ (0 ≤ v ∧ v < σ.1 500 a ∧ v < p) ∧ n = -1))) := by
  refine zz_mk k_Numbers_numberAt o_Numbers_numberAt rfl rfl (Nat.le_of_ble_eq_true rfl) ?_
  show zz_G X 1 p_Numbers_numberAt 0 [zP 5 p 0 a, zI v] [] σ _
  refine zz_gsn 1 rfl ?_
  refine zz_br rfl (fun h1 => ?_) (fun h1 => ?_)
  · refine zz_gsn 1 rfl ?_
    refine zz_ri rfl (Or.inl rfl) ?_
    exact ⟨rfl, _, rfl, by omega⟩
  · refine zz_gsn 3 rfl ?_
    refine zz_br rfl (fun h5 => ?_) (fun h5 => ?_)
    · refine zz_gsn 1 rfl ?_
      refine zz_ri rfl (Or.inl rfl) ?_
      exact ⟨rfl, _, rfl, by omega⟩
    · refine zz_gsn 4 rfl ?_
      refine zz_br rfl (fun h10 => ?_) (fun h10 => ?_)
      · refine zz_gsn 1 rfl ?_
        refine zz_ri rfl (Or.inl rfl) ?_
        exact ⟨rfl, _, rfl, by omega⟩
      · refine zz_gsn 3 rfl ?_
        refine zz_ald rfl (by omega) ?_
        refine zz_jp rfl ?_
        refine zz_ri rfl (Or.inl rfl) ?_
        exact ⟨rfl, _, rfl, by omega⟩
theorem t_Bytes_byteAt {X : zz_X} {σ : zz_M} {p a : Nat} {v : Int}  : zz_T X 1 p_Bytes_byteAt [zP 0 p 0 a, zI v] σ (fun r σ' => σ = σ' ∧ ∃ n : Int, r = some (zI n) ∧ ((0 ≤ v ∧ v < σ.1 0 a ∧ v < p ∧ n = zz_and (σ.2 (a + 1) v.toNat) 255) ∨ (¬ (0 ≤ v ∧ v < σ.1 0 a ∧ v < p) ∧ n = -1))) := by
  refine zz_mk k_Bytes_byteAt o_Bytes_byteAt rfl rfl (Nat.le_of_ble_eq_true rfl) ?_
  show zz_G X 1 p_Bytes_byteAt 0 [zP 0 p 0 a, zI v] [] σ _
  refine zz_gsn 1 rfl ?_
  refine zz_br rfl (fun h1 => ?_) (fun h1 => ?_)
  · refine zz_gsn 1 rfl ?_
    refine zz_ri rfl (Or.inl rfl) ?_
    exact ⟨rfl, _, rfl, by omega⟩
  · refine zz_gsn 3 rfl ?_
    refine zz_br rfl (fun h5 => ?_) (fun h5 => ?_)
    · refine zz_gsn 1 rfl ?_
      refine zz_ri rfl (Or.inl rfl) ?_
      exact ⟨rfl, _, rfl, by omega⟩
    · refine zz_gsn 4 rfl ?_
      refine zz_br rfl (fun h10 => ?_) (fun h10 => ?_)
      · refine zz_gsn 1 rfl ?_
        refine zz_ri rfl (Or.inl rfl) ?_
        exact ⟨rfl, _, rfl, by omega⟩
      · refine zz_gsn 3 rfl ?_
        refine zz_ald rfl (by omega) ?_
        refine zz_gsn 2 rfl ?_
        refine zz_jp rfl ?_
        refine zz_ri rfl (Or.inl rfl) ?_
        exact ⟨rfl, _, rfl, by omega⟩
theorem t_Bytes_add {X : zz_X} {σ : zz_M} {p a : Nat} {v : Int}  : zz_T X 1 p_Bytes_add [zP 0 p 0 a, zI v] σ (fun r σ' => r = none ∧ ((0 ≤ σ.1 0 a ∧ σ.1 0 a < p ∧ σ' = zz_sf (zz_sa σ (a + 1) (σ.1 0 a).toNat (zz_i2b (zz_i2b v))) 0 a (zw (σ.1 0 a + 1))) ∨ (¬ (0 ≤ σ.1 0 a ∧ σ.1 0 a < p) ∧ σ' = σ))) := by
  refine zz_mk k_Bytes_add o_Bytes_add rfl rfl (Nat.le_of_ble_eq_true rfl) ?_
  show zz_G X 1 p_Bytes_add 0 [zP 0 p 0 a, zI v] [] σ _
  refine zz_gsn 2 rfl ?_
  refine zz_br rfl (fun h2 => ?_) (fun h2 => ?_)
  · refine zz_rv rfl rfl ?_
    exact ⟨rfl, Or.inr ⟨by omega, rfl⟩⟩
  · refine zz_gsn 5 rfl ?_
    refine zz_br rfl (fun h8 => ?_) (fun h8 => ?_)
    · refine zz_rv rfl rfl ?_
      exact ⟨rfl, Or.inr ⟨by omega, rfl⟩⟩
    · refine zz_gsn 6 rfl ?_
      refine zz_ast rfl (by omega) ?_
      refine zz_gsn 6 rfl ?_
      refine zz_rv rfl rfl ?_
      exact ⟨rfl, Or.inl ⟨by omega, by omega, rfl⟩⟩
theorem t_TQ_isPutting {X : zz_X} {σ : zz_M} {v : Int}  : zz_T X 1 p_TQ_isPutting [zI v] σ (fun r σ' => σ = σ' ∧ ∃ n : Int, r = some (zI n) ∧ ((n = 1 ∧ (v = 0 ∨ v = 2)) ∨ (n = 0 ∧ ¬ (v = 0 ∨ v = 2)))) := by
  refine zz_mk k_TQ_isPutting o_TQ_isPutting rfl rfl (Nat.le_of_ble_eq_true rfl) ?_
  show zz_G X 1 p_TQ_isPutting 0 [zI v] [] σ _
  refine zz_gsn 1 rfl ?_
  refine zz_br rfl (fun h1 => ?_) (fun h1 => ?_)
  · refine zz_gsn 1 rfl ?_
    refine zz_jp rfl ?_
    refine zz_ri rfl (Or.inr ⟨rfl, by first | exact Or.inl rfl | exact Or.inr rfl | omega⟩) ?_
    exact ⟨rfl, _, rfl, by omega⟩
  · refine zz_gsn 2 rfl ?_
    refine zz_br rfl (fun h4 => ?_) (fun h4 => ?_)
    · refine zz_gsn 1 rfl ?_
      refine zz_ri rfl (Or.inr ⟨rfl, by first | exact Or.inl rfl | exact Or.inr rfl | omega⟩) ?_
      exact ⟨rfl, _, rfl, by omega⟩
    · refine zz_gsn 1 rfl ?_
      refine zz_jp rfl ?_
      refine zz_ri rfl (Or.inr ⟨rfl, by first | exact Or.inl rfl | exact Or.inr rfl | omega⟩) ?_
      exact ⟨rfl, _, rfl, by omega⟩
theorem t_State_isAtRest {X : zz_X} {σ : zz_M} {s : Nat}  : zz_T X 1 p_State_isAtRest [zP 9 0 0 s] σ (fun r σ' => σ = σ' ∧ ∃ n : Int, r = some (zI n) ∧ ((n = 1 ∧ σ.1 908 s = 0 ∧ σ.1 910 s = 0 ∧ σ.1 911 s = 0) ∨ (n = 0 ∧ ¬ (σ.1 908 s = 0 ∧ σ.1 910 s = 0 ∧ σ.1 911 s = 0)))) := by
  refine zz_mk k_State_isAtRest o_State_isAtRest rfl rfl (Nat.le_of_ble_eq_true rfl) ?_
  show zz_G X 1 p_State_isAtRest 0 [zP 9 0 0 s] [] σ _
  refine zz_gsn 2 rfl ?_
  refine zz_br rfl (fun h2 => ?_) (fun h2 => ?_)
  · refine zz_gsn 1 rfl ?_
    refine zz_ri rfl (Or.inr ⟨rfl, by first | exact Or.inl rfl | exact Or.inr rfl | omega⟩) ?_
    exact ⟨rfl, _, rfl, by omega⟩
  · refine zz_gsn 2 rfl ?_
    refine zz_br rfl (fun h5 => ?_) (fun h5 => ?_)
    · refine zz_gsn 1 rfl ?_
      refine zz_ri rfl (Or.inr ⟨rfl, by first | exact Or.inl rfl | exact Or.inr rfl | omega⟩) ?_
      exact ⟨rfl, _, rfl, by omega⟩
    · refine zz_gsn 2 rfl ?_
      refine zz_br rfl (fun h8 => ?_) (fun h8 => ?_)
      · refine zz_gsn 1 rfl ?_
        refine zz_ri rfl (Or.inr ⟨rfl, by first | exact Or.inl rfl | exact Or.inr rfl | omega⟩) ?_
        exact ⟨rfl, _, rfl, by omega⟩
      · refine zz_gsn 1 rfl ?_
        refine zz_jp rfl ?_
        refine zz_ri rfl (Or.inr ⟨rfl, by first | exact Or.inl rfl | exact Or.inr rfl | omega⟩) ?_
        exact ⟨rfl, _, rfl, by omega⟩
end
section
/-! THE ABSTRACT DEED: rows are lists of cells, by their numbers. -/
def zu {α : Type} (f : Nat → α) (k : Nat) (v : α) : Nat → α := fun j => if j = k then v else f j
theorem zu_s {α : Type} (f : Nat → α) (k : Nat) (v : α) : zu f k v k = v := if_pos rfl
theorem zu_n {α : Type} (f : Nat → α) {k j : Nat} (v : α) (h : j ≠ k) : zu f k v j = f j := if_neg h
/-- cells made, their numbers, their makers; rows; COUNT 6, STATE 7, GOOD 8, OWE 9 10, MANY 11 -/
abbrev zz_W : Type := Nat × (Nat → Int) × (Nat → Int) × (Nat → List Nat) × (Nat → Int)
abbrev zz_W.n (W : zz_W) : Nat := W.1
abbrev zz_W.num (W : zz_W) : Nat → Int := W.2.1
abbrev zz_W.mkr (W : zz_W) : Nat → Int := W.2.2.1
abbrev zz_W.R (W : zz_W) : Nat → List Nat := W.2.2.2.1
abbrev zz_W.S (W : zz_W) : Nat → Int := W.2.2.2.2
def w_push (mk : Int) (k : Nat) (x : Int) (W : zz_W) : zz_W := (W.n + 1, zu W.num W.n x, zu W.mkr W.n mk, zu W.R k (W.n :: W.R k), W.S)
def w_R (k : Nat) (l : List Nat) (W : zz_W) : zz_W := (W.n, W.num, W.mkr, zu W.R k l, W.S)
def w_S (j : Nat) (v : Int) (W : zz_W) : zz_W := (W.n, W.num, W.mkr, W.R, zu W.S j v)
def w_pop (k : Nat) (W : zz_W) : zz_W := w_R k (W.R k).tail W
def w_move (mk : Int) (i j : Nat) (W : zz_W) : zz_W := match W.R i with
  | [] => W
  | c :: _ => w_pop i (w_push mk j (W.num c) W)
def w_mvs (mk : Int) (i j : Nat) : Nat → zz_W → zz_W
  | 0, W => W
  | n + 1, W => w_mvs mk i j n (w_move mk i j W)
/-- pushes a list of numbers, the last one first -/
def w_pus (mk : Int) (k : Nat) : List Int → zz_W → zz_W
  | [], W => W
  | x :: xs, W => w_push mk k x (w_pus mk k xs W)
abbrev w_len (k : Nat) (W : zz_W) : Int := ((W.R k).length : Int)
/-- LAW 0: the row behind, and its STEPS, whether it was turned -/
def w_all (mk : Int) (W : zz_W) : zz_W := if W.R 0 = [] then w_mvs mk 1 0 (W.R 1).length W else W
def w_allS (W : zz_W) : Int := if W.R 0 = [] then w_len 1 W else 0
def w_allB (W : zz_W) : Int := if W.R 0 = [] ∧ W.R 1 ≠ [] then 1 else 0
/-- LAW 1 -/
def w_dis (W : zz_W) : zz_W :=
  if W.S 7 = 2 ∧ W.S 8 = 0 then w_S 7 3 (w_pop 5 (w_S 6 (W.S 6 - 1) W))
  else if W.S 7 = 1 ∨ W.S 7 = 2 then w_S 8 (W.S 8 - 1) (w_S 6 (W.S 6 - 1) W)
  else w_S 6 (W.S 6 - 1) W
def w_clr (W : zz_W) : zz_W := w_S 8 0 (w_S 7 0 (w_R 5 [] (w_R 4 [] (w_R 3 [] (w_R 2 [] W)))))
def w_beg (W : zz_W) : zz_W :=
  w_R 1 [] (w_S 6 (W.S 6 + w_len 1 W) (w_R 4 (W.R 1) (w_R 2 (W.R 0) (w_S 7 1 (w_clr W)))))
def w_trn (mk : Int) (W : zz_W) : zz_W :=
  if W.S 7 = 1 then
    (if W.R 2 = [] then w_move mk 4 5 (w_S 7 2 W)
     else w_move mk 4 5 (w_S 8 (W.S 8 + 1) (w_move mk 2 3 W)))
  else if W.S 7 = 2 then (if 0 < W.S 8 then w_S 8 (W.S 8 - 1) (w_move mk 3 5 W) else w_S 7 3 W)
  else W
def w_trnS (W : zz_W) : Int := if W.S 7 = 1 ∨ W.S 7 = 2 then 1 else 0
def w_bg (W : zz_W) : Prop := W.S 6 < w_len 1 W
def w_b (W : zz_W) : zz_W := if W.S 6 < w_len 1 W then w_beg W else W
def w_fin (W : zz_W) : zz_W := if W.S 7 = 3 then w_clr (w_R 0 (W.R 5) W) else W
def w_one (mk : Int) (W : zz_W) : zz_W := w_fin (w_trn mk (w_trn mk (w_b W)))
def w_oneS (mk : Int) (W : zz_W) : Int := w_trnS (w_b W) + w_trnS (w_trn mk (w_b W))
def w_oneB (W : zz_W) : Int := if W.S 6 < w_len 1 W then 1 else 0
def w_oneO (W : zz_W) : Int := if W.S 6 < w_len 1 W ∧ W.S 7 ≠ 0 then 1 else 0
/-- LAW 2 -/
def w_pay (sh : Int) (W : zz_W) : zz_W := w_S 10 (W.S 10 - min (W.S 10) sh) (w_S 9 (W.S 9 - min (W.S 9) sh) W)
def w_payS (sh : Int) (W : zz_W) : Int := min (W.S 9) sh + min (W.S 10) sh
def w_laid (i j : Nat) (W : zz_W) : List Int := (W.R i).map W.num ++ ((W.R j).map W.num).reverse
def w_spl (mk : Int) (i j : Nat) (W : zz_W) : zz_W :=
  let L := w_laid i j W
  let W1 := w_pus mk j (L.drop (L.length / 2)).reverse (w_pus mk i (L.take (L.length / 2)) (w_R j [] (w_R i [] W)))
  w_S 10 (w_len 1 W1) (w_S 9 (w_len 0 W1) W1)
def w_evn (mk C : Int) (W : zz_W) : zz_W :=
  if C * w_len 1 W + 1 < w_len 0 W then w_spl mk 0 1 W
  else if C * w_len 0 W + 1 < w_len 1 W then w_spl mk 1 0 W
  else W
def w_evnB (C : Int) (W : zz_W) : Int := if C * w_len 1 W + 1 < w_len 0 W ∨ C * w_len 0 W + 1 < w_len 1 W then 1 else 0
def w_evnO (C : Int) (W : zz_W) : Int := if (C * w_len 1 W + 1 < w_len 0 W ∨ C * w_len 0 W + 1 < w_len 1 W) ∧ (0 < W.S 9 ∨ 0 < W.S 10) then 1 else 0
/-- what the DEED itself does -/
def w_chg (law mk kind x : Int) (W : zz_W) : zz_W :=
  let W1 := w_S 11 (W.S 11 + (if kind = 0 ∨ kind = 2 then 1 else -1)) W
  if kind = 0 then w_push mk 1 x W1
  else if kind = 2 then w_push mk 0 x W1
  else if kind = 1 then (let W2 := if law = 1 then w_dis W1 else W1
    w_pop (if W2.R 0 = [] then 1 else 0) W2)
  else w_pop (if W1.R 1 = [] then 0 else 1) W1
def w_sh (kind : Int) : Int := if kind = 0 ∨ kind = 2 then 1 else 2
/-- a DEED -/
def w_deed (law C mk kind x : Int) (W : zz_W) : zz_W :=
  let W1 := w_chg law mk kind x W
  if law = 0 then w_all mk W1 else if law = 1 then w_one mk W1 else w_evn mk C (w_pay (w_sh kind) W1)
def w_steps (law C mk kind x : Int) (W : zz_W) : Int :=
  let W1 := w_chg law mk kind x W
  1 + (if law = 0 then w_allS W1 else if law = 1 then w_oneS mk W1 else w_payS (w_sh kind) W1)
def w_begun (law C mk kind x : Int) (W : zz_W) : Int :=
  let W1 := w_chg law mk kind x W
  if law = 0 then w_allB W1 else if law = 1 then w_oneB W1 else w_evnB C (w_pay (w_sh kind) W1)
def w_over (law C mk kind x : Int) (W : zz_W) : Int :=
  let W1 := w_chg law mk kind x W
  if law = 0 then 0 else if law = 1 then w_oneO W1 else w_evnO C (w_pay (w_sh kind) W1)
/-- a chain of cells from one on -/
def zz_ch (nx : Nat → Int) : Int → List Nat → Prop
  | h, [] => h = -1
  | h, c :: l => h = (c : Nat) ∧ zz_ch nx (nx c) l
theorem zz_ch_cong {nx nx' : Nat → Int} : ∀ {l : List Nat} {h : Int}, (∀ c ∈ l, nx' c = nx c) → zz_ch nx h l → zz_ch nx' h l
  | [], _, _, h => h
  | c :: l, h, hc, hh => ⟨hh.1, by
    rw [hc c List.mem_cons_self]
    exact zz_ch_cong (fun c' h' => hc c' (List.mem_cons_of_mem _ h')) hh.2⟩
/-- a STATE of the class at s, its cells those of the mill at m with room p (0: lengths alone) -/
def SP (σ : zz_M) (p m s : Nat) (W : zz_W) : Prop :=
  (∀ k, k < 6 → σ.1 701 (s + 1 + k) = w_len k W ∧ (0 < p → zz_ch (σ.2 (m + 3)) (σ.1 700 (s + 1 + k)) (W.R k)))
  ∧ (∀ j, 6 ≤ j → j < 11 → σ.1 (901 + j) s = W.S j) ∧ σ.1 906 s = W.S 11
  ∧ (0 < p → σ.1 100 (m + 1) = (W.n : Nat) ∧ W.n ≤ p ∧ ∀ i, i < W.n → σ.2 (m + 2) i = W.num i ∧ σ.2 (m + 4) i = W.mkr i)
  ∧ (∀ k, k < 6 → ∀ c ∈ W.R k, c < W.n)
def zz_c1c (s m f a : Nat) : Prop := (s < a ∧ a < s + 7 ∧ (f = 700 ∨ f = 701)) ∨ (a = s ∧ 906 ≤ f ∧ f ≤ 911) ∨ (a = m + 1 ∧ f = 100)
def zz_c1m (s m f a : Nat) : Prop := (s < a ∧ a < s + 7 ∧ (f = 700 ∨ f = 701)) ∨ (a = s ∧ 906 ≤ f ∧ f ≤ 911) ∨ (a = m + 1 ∧ f = 100) ∨ (a = m ∧ (f = 401 ∨ f = 402 ∨ f = 406 ∨ f = 407))
def zz_c2m (m n a i : Nat) : Prop := ((a = m + 2 ∨ a = m + 3 ∨ a = m + 4) ∧ n ≤ i) ∨ a = m + 6
/-- what a mill changes at most, n cells being made -/
def Mg (s m n : Nat) (σ σ' : zz_M) : Prop := (∀ f a, ¬ zz_c1m s m f a → σ'.1 f a = σ.1 f a) ∧ (∀ a i, ¬ zz_c2m m n a i → σ'.2 a i = σ.2 a i)
theorem Mg.rf {s m n : Nat} {σ : zz_M} : Mg s m n σ σ := ⟨fun _ _ _ => rfl, fun _ _ _ => rfl⟩
theorem Mg.tr {s m n n2 : Nat} {σ σ1 σ2 : zz_M} (h : Mg s m n σ σ1) (h2 : Mg s m n2 σ1 σ2) (hn : n ≤ n2) : Mg s m n σ σ2 :=
  ⟨fun f a q => (h2.1 f a q).trans (h.1 f a q), fun a i q => (h2.2 a i (fun z => q (by unfold zz_c2m at z ⊢; omega))).trans (h.2 a i q)⟩
theorem Mg.sf {s m n f a : Nat} {σ : zz_M} {v : Int} (h : zz_c1m s m f a) : Mg s m n σ (zz_sf σ f a v) := ⟨fun f' a' q => by
  have e : ¬ (f' = f ∧ a' = a) := fun z => q (by rw [z.1, z.2]; exact h)
  rw [sf_1, if_neg e], fun _ _ _ => rfl⟩
theorem Mg.sa {s m n a i : Nat} {σ : zz_M} {v : Int} (h : zz_c2m m n a i) : Mg s m n σ (zz_sa σ a i v) := ⟨fun _ _ _ => rfl, fun a' i' q => by
  have e : ¬ (a' = a ∧ i' = i) := fun z => q (by rw [z.1, z.2]; exact h)
  rw [sa_2, if_neg e]⟩
def zz_c2c (m n a i : Nat) : Prop := (a = m + 2 ∨ a = m + 3 ∨ a = m + 4) ∧ n ≤ i
/-- what is changed at most, n cells being made, the mill's own numbers apart -/
def Mc (s m n : Nat) (σ σ' : zz_M) : Prop := (∀ f a, ¬ zz_c1c s m f a → σ'.1 f a = σ.1 f a) ∧ (∀ a i, ¬ zz_c2c m n a i → σ'.2 a i = σ.2 a i)
theorem Mc.rf {s m n : Nat} {σ : zz_M} : Mc s m n σ σ := ⟨fun _ _ _ => rfl, fun _ _ _ => rfl⟩
theorem Mc.tr {s m n n2 : Nat} {σ σ1 σ2 : zz_M} (h : Mc s m n σ σ1) (h2 : Mc s m n2 σ1 σ2) (hn : n ≤ n2) : Mc s m n σ σ2 :=
  ⟨fun f a q => (h2.1 f a q).trans (h.1 f a q), fun a i q => (h2.2 a i (fun z => q (by unfold zz_c2c at z ⊢; omega))).trans (h.2 a i q)⟩
theorem Mc.sf {s m n f a : Nat} {σ : zz_M} {v : Int} (h : zz_c1c s m f a) : Mc s m n σ (zz_sf σ f a v) := ⟨fun f' a' q => by
  have e : ¬ (f' = f ∧ a' = a) := fun z => q (by rw [z.1, z.2]; exact h)
  rw [sf_1, if_neg e], fun _ _ _ => rfl⟩
theorem Mc.sa {s m n a i : Nat} {σ : zz_M} {v : Int} (h : zz_c2c m n a i) : Mc s m n σ (zz_sa σ a i v) := ⟨fun _ _ _ => rfl, fun a' i' q => by
  have e : ¬ (a' = a ∧ i' = i) := fun z => q (by rw [z.1, z.2]; exact h)
  rw [sa_2, if_neg e]⟩
theorem Mc.g {s m n : Nat} {σ σ' : zz_M} (h : Mc s m n σ σ') : Mg s m n σ σ' := ⟨fun f a q => h.1 f a (fun z => q (by unfold zz_c1c at z; unfold zz_c1m; omega)), fun a i q => h.2 a i (fun z => q (by unfold zz_c2c at z; unfold zz_c2m; omega))⟩
theorem Mc.m {s m n : Nat} {σ σ' : zz_M} (h : Mc s m n σ σ') {f : Nat} (hf : 400 ≤ f ∧ f < 500) : σ'.1 f m = σ.1 f m := h.1 f m (by unfold zz_c1c; omega)
theorem sf_h (σ : zz_M) (f a : Nat) (v : Int) : (zz_sf σ f a v).1 f a = v := if_pos ⟨rfl, rfl⟩
theorem sf_f (σ : zz_M) {f f' a a' : Nat} (v : Int) (h : f' ≠ f) : (zz_sf σ f a v).1 f' a' = σ.1 f' a' := if_neg (fun z => h z.1)
theorem sf_a (σ : zz_M) {f f' a a' : Nat} (v : Int) (h : a' ≠ a) : (zz_sf σ f a v).1 f' a' = σ.1 f' a' := if_neg (fun z => h z.2)
theorem sa_h (σ : zz_M) (a i : Nat) (v : Int) : (zz_sa σ a i v).2 a i = v := if_pos ⟨rfl, rfl⟩
theorem sa_a (σ : zz_M) {a a' i i' : Nat} (v : Int) (h : a' ≠ a) : (zz_sa σ a i v).2 a' i' = σ.2 a' i' := if_neg (fun z => h z.1)
theorem sa_i (σ : zz_M) {a a' i i' : Nat} (v : Int) (h : i' ≠ i) : (zz_sa σ a i v).2 a' i' = σ.2 a' i' := if_neg (fun z => h z.2)
/-- a number of the mill's own -/
theorem SP.mf {σ : zz_M} {p m s : Nat} {W : zz_W} (h : SP σ p m s W) {f a : Nat} {v : Int} (hf : 400 ≤ f ∧ f < 500) : SP (zz_sf σ f a v) p m s W := by
  obtain ⟨h1, h2, h3, h4, h5⟩ := h
  refine ⟨fun k hk => ?_, fun j a1 a2 => ?_, ?_, fun hp => ?_, h5⟩
  · rw [sf_f _ _ (by omega), sf_f _ _ (by omega)]
    exact h1 k hk
  · rw [sf_f _ _ (by omega)]
    exact h2 j a1 a2
  · rw [sf_f _ _ (by omega)]
    exact h3
  · rw [sf_f _ _ (by omega)]
    exact h4 hp
theorem SP.st {σ : zz_M} {p m s : Nat} {W : zz_W} (h : SP σ p m s W) {j : Nat} {v : Int} (hj : 6 ≤ j ∧ j < 11) : SP (zz_sf σ (901 + j) s v) p m s (w_S j v W) := by
  obtain ⟨h1, h2, h3, h4, h5⟩ := h
  refine ⟨fun k hk => ?_, fun i a1 a2 => ?_, ?_, fun hp => ?_, h5⟩
  · rw [sf_f _ _ (by omega), sf_f _ _ (by omega)]
    exact h1 k hk
  · by_cases e : i = j
    · subst e
      rw [sf_h]
      exact (zu_s _ _ _).symm
    · rw [sf_f _ _ (by omega), h2 i a1 a2]
      exact (zu_n _ _ e).symm
  · rw [sf_f _ _ (by omega), h3]
    exact (zu_n _ _ (by omega)).symm
  · rw [sf_f _ _ (by omega)]
    exact h4 hp
theorem SP.tot {σ : zz_M} {p m s : Nat} {W : zz_W} (h : SP σ p m s W) {v : Int} : SP (zz_sf σ 906 s v) p m s (w_S 11 v W) := by
  obtain ⟨h1, h2, h3, h4, h5⟩ := h
  refine ⟨fun k hk => ?_, fun i a1 a2 => ?_, ?_, fun hp => ?_, h5⟩
  · rw [sf_f _ _ (by omega), sf_f _ _ (by omega)]
    exact h1 k hk
  · rw [sf_f _ _ (by omega), h2 i a1 a2]
    exact (zu_n _ _ (by omega)).symm
  · rw [sf_h]
    exact (zu_s W.S 11 v).symm
  · rw [sf_f _ _ (by omega)]
    exact h4 hp
/-- a row is written anew, of cells that are there -/
theorem SP.row {σ : zz_M} {p m s : Nat} {W : zz_W} (h : SP σ p m s W) {k : Nat} {hd ln : Int} {l : List Nat} (hk : k < 6) (hln : ln = (l.length : Nat)) (hch : 0 < p → zz_ch (σ.2 (m + 3)) hd l) (hl : ∀ c ∈ l, c < W.n) : SP (zz_sf (zz_sf σ 700 (s + 1 + k) hd) 701 (s + 1 + k) ln) p m s (w_R k l W) := by
  obtain ⟨h1, h2, h3, h4, h5⟩ := h
  refine ⟨fun i hi => ?_, fun i a1 a2 => ?_, ?_, fun hp => ?_, fun i hi c hc => ?_⟩
  · by_cases e : i = k
    · subst e
      rw [sf_h, sf_f _ _ (by omega), sf_h]
      show ln = (((zu W.R i l) i).length : Int) ∧ (0 < p → zz_ch _ hd ((zu W.R i l) i))
      rw [zu_s]
      exact ⟨hln, hch⟩
    · rw [sf_a _ _ (by omega), sf_a _ _ (by omega), sf_a _ _ (by omega), sf_a _ _ (by omega)]
      show σ.1 701 (s + 1 + i) = (((zu W.R k l) i).length : Int) ∧ (0 < p → zz_ch _ _ ((zu W.R k l) i))
      rw [zu_n _ _ e]
      exact h1 i hi
  · rw [sf_f _ _ (by omega), sf_f _ _ (by omega)]
    exact h2 i a1 a2
  · rw [sf_f _ _ (by omega), sf_f _ _ (by omega)]
    exact h3
  · rw [sf_f _ _ (by omega), sf_f _ _ (by omega)]
    exact h4 hp
  · have hc' : c ∈ (zu W.R k l) i := hc
    by_cases e : i = k
    · subst e
      rw [zu_s] at hc'
      exact hl c hc'
    · rw [zu_n _ _ e] at hc'
      exact h5 i hi c hc'
end
section
/-! the mill -/
theorem sp_add {σ σ' : zz_M} {p m s k : Nat} {W : zz_W} {x y mk : Int} (h : SP σ p m s W) (hk : k < 6) (hp : 0 < p → W.n < p) (hpb : p < 100000) (hlen : (W.R k).length < 100000) (hxy : 0 < p → x = y)
    (q : (0 ≤ σ.1 100 (m + 1) ∧ σ.1 100 (m + 1) < p ∧ σ' = zz_sf (zz_sf (zz_sf (zz_sa (zz_sa (zz_sa σ (m + 1 + 1) (σ.1 100 (m + 1)).toNat x) (m + 1 + 2) (σ.1 100 (m + 1)).toNat (σ.1 700 (s + 1 + k))) (m + 1 + 3) (σ.1 100 (m + 1)).toNat mk) 100 (m + 1) (zw (σ.1 100 (m + 1) + 1))) 700 (s + 1 + k) (σ.1 100 (m + 1))) 701 (s + 1 + k) (zw (σ.1 701 (s + 1 + k) + 1))) ∨ (¬ (0 ≤ σ.1 100 (m + 1) ∧ σ.1 100 (m + 1) < p) ∧ σ' = zz_sf (zz_sf σ 700 (s + 1 + k) (-1)) 701 (s + 1 + k) (zw (σ.1 701 (s + 1 + k) + 1)))) :
    SP σ' p m s (w_push mk k y W) ∧ Mc s m W.n σ σ' := by
  obtain ⟨h1, h2, h3, h4, h5⟩ := h
  have ek : w_len k W = ((W.R k).length : Nat) := rfl
  have el : zw (σ.1 701 (s + 1 + k) + 1) = ((W.n :: W.R k).length : Nat) := by
    rw [(h1 k hk).1, zw_id (by omega) (by omega), List.length_cons]
    omega
  rcases q with ⟨q1, q2, rfl⟩ | ⟨q1, rfl⟩
  · have hp0 : 0 < p := by omega
    obtain ⟨g1, g2, g3⟩ := h4 hp0
    have hx := hxy hp0
    subst hx
    have hn := hp hp0
    have en : (σ.1 100 (m + 1)).toNat = W.n := by omega
    have ew : zw (σ.1 100 (m + 1) + 1) = ((W.n + 1 : Nat) : Int) := by rw [g1, zw_id (by omega) (by omega)]; omega
    rw [el, en, ew, g1]
    refine ⟨⟨fun i hi => ?_, fun i a1 a2 => ?_, ?_, fun _ => ⟨?_, ?_, fun i hi => ?_⟩, fun i hi c hc => ?_⟩, ?_⟩
    · by_cases e : i = k
      · subst e
        rw [sf_h, sf_f _ _ (by omega), sf_h]
        show _ = ((((zu W.R i (W.n :: W.R i)) i).length : Nat) : Int) ∧ (0 < p → zz_ch _ _ ((zu W.R i (W.n :: W.R i)) i))
        rw [zu_s]
        refine ⟨rfl, fun _ => ⟨rfl, ?_⟩⟩
        have e1 : (zz_sf (zz_sf (zz_sf (zz_sa (zz_sa (zz_sa σ (m + 1 + 1) W.n x) (m + 1 + 2) W.n (σ.1 700 (s + 1 + i))) (m + 1 + 3) W.n mk) 100 (m + 1) ((W.n + 1 : Nat) : Int)) 700 (s + 1 + i) (W.n : Nat)) 701 (s + 1 + i) ((W.n :: W.R i).length : Nat)).2 (m + 3) W.n = σ.1 700 (s + 1 + i) := by
          rw [sf_2, sf_2, sf_2, sa_a _ _ (by omega), show m + 3 = m + 1 + 2 by omega, sa_h]
        rw [e1]
        refine zz_ch_cong (fun c hc => ?_) ((h1 i hi).2 hp0)
        have := h5 i hi c hc
        rw [sf_2, sf_2, sf_2, sa_a _ _ (by omega), sa_i _ _ (by omega), sa_a _ _ (by omega)]
      · rw [sf_a _ _ (by omega), sf_a _ _ (by omega), sf_f _ _ (by omega), sf_a _ _ (by omega), sf_a _ _ (by omega), sf_f _ _ (by omega)]
        show σ.1 701 (s + 1 + i) = ((((zu W.R k (W.n :: W.R k)) i).length : Nat) : Int) ∧ (0 < p → zz_ch _ (σ.1 700 (s + 1 + i)) ((zu W.R k (W.n :: W.R k)) i))
        rw [zu_n _ _ e]
        refine ⟨(h1 i hi).1, fun _ => zz_ch_cong (fun c hc => ?_) ((h1 i hi).2 hp0)⟩
        have := h5 i hi c hc
        rw [sf_2, sf_2, sf_2, sa_a _ _ (by omega), sa_i _ _ (by omega), sa_a _ _ (by omega)]
    · rw [sf_f _ _ (by omega), sf_f _ _ (by omega), sf_f _ _ (by omega)]
      exact h2 i a1 a2
    · rw [sf_f _ _ (by omega), sf_f _ _ (by omega), sf_f _ _ (by omega)]
      exact h3
    · rw [sf_f _ _ (by omega), sf_f _ _ (by omega), sf_h]
      rfl
    · exact hn
    · rw [sf_2, sf_2, sf_2]
      show _ = (zu W.num W.n x) i ∧ _ = (zu W.mkr W.n mk) i
      have hi' : i < W.n + 1 := hi
      by_cases e : i = W.n
      · rw [e, zu_s, zu_s]
        refine ⟨?_, ?_⟩
        · rw [sa_a _ _ (by omega), sa_a _ _ (by omega), show m + 2 = m + 1 + 1 by omega, sa_h]
        · rw [show m + 4 = m + 1 + 3 by omega, sa_h]
      · rw [zu_n _ _ e, zu_n _ _ e, sa_i _ _ e, sa_i _ _ e, sa_i _ _ e, sa_i _ _ e, sa_i _ _ e, sa_i _ _ e]
        exact g3 i (by omega)
    · show c < W.n + 1
      have hc' : c ∈ (zu W.R k (W.n :: W.R k)) i := hc
      by_cases e : i = k
      · subst e
        rw [zu_s] at hc'
        rcases List.mem_cons.mp hc' with z | z
        · omega
        · have := h5 i hi c z; omega
      · rw [zu_n _ _ e] at hc'
        have := h5 i hi c hc'
        omega
    · refine ⟨fun f a q => ?_, fun a i q => ?_⟩
      · unfold zz_c1c at q
        rw [sf_1, if_neg (by omega), sf_1, if_neg (by omega), sf_1, if_neg (by omega)]
        rfl
      · unfold zz_c2c at q
        rw [sf_2, sf_2, sf_2, sa_2, if_neg (by omega), sa_2, if_neg (by omega), sa_2, if_neg (by omega)]
  · have hp0 : ¬ 0 < p := by
      intro hp0
      obtain ⟨g1, g2, g3⟩ := h4 hp0
      have hn := hp hp0
      omega
    rw [el]
    refine ⟨⟨fun i hi => ?_, fun i a1 a2 => ?_, ?_, fun z => absurd z hp0, fun i hi c hc => ?_⟩, ?_⟩
    · by_cases e : i = k
      · subst e
        rw [sf_h]
        show _ = ((((zu W.R i (W.n :: W.R i)) i).length : Nat) : Int) ∧ _
        rw [zu_s]
        exact ⟨rfl, fun z => absurd z hp0⟩
      · rw [sf_a _ _ (by omega), sf_a _ _ (by omega)]
        show σ.1 701 (s + 1 + i) = ((((zu W.R k (W.n :: W.R k)) i).length : Nat) : Int) ∧ _
        rw [zu_n _ _ e]
        exact ⟨(h1 i hi).1, fun z => absurd z hp0⟩
    · rw [sf_f _ _ (by omega), sf_f _ _ (by omega)]
      exact h2 i a1 a2
    · rw [sf_f _ _ (by omega), sf_f _ _ (by omega)]
      exact h3
    · show c < W.n + 1
      have hc' : c ∈ (zu W.R k (W.n :: W.R k)) i := hc
      by_cases e : i = k
      · subst e
        rw [zu_s] at hc'
        rcases List.mem_cons.mp hc' with z | z
        · omega
        · have := h5 i hi c z; omega
      · rw [zu_n _ _ e] at hc'
        have := h5 i hi c hc'
        omega
    · refine ⟨fun f a q => ?_, fun a i q => rfl⟩
      unfold zz_c1c at q
      rw [sf_1, if_neg (by omega), sf_1, if_neg (by omega)]
theorem sp_drop {σ σ' : zz_M} {p m s k : Nat} {W : zz_W} (h : SP σ p m s W) (hk : k < 6) (hlen : (W.R k).length < 100000)
    (q : (0 < σ.1 701 (s + 1 + k) ∧ ∃ w : Int, ((0 ≤ σ.1 700 (s + 1 + k) ∧ σ.1 700 (s + 1 + k) < p ∧ w = σ.2 (m + 1 + 2) (σ.1 700 (s + 1 + k)).toNat) ∨ (¬ (0 ≤ σ.1 700 (s + 1 + k) ∧ σ.1 700 (s + 1 + k) < p) ∧ w = -1)) ∧ σ' = zz_sf (zz_sf σ 700 (s + 1 + k) w) 701 (s + 1 + k) (zw (σ.1 701 (s + 1 + k) - 1))) ∨ (σ.1 701 (s + 1 + k) ≤ 0 ∧ σ' = σ)) :
    SP σ' p m s (w_pop k W) ∧ Mc s m W.n σ σ' := by
  have h' := h
  obtain ⟨h1, h2, h3, h4, h5⟩ := h
  obtain ⟨e1, e2⟩ := h1 k hk
  cases hR : W.R k with
  | nil =>
    have e0 : w_len k W = 0 := by unfold w_len; rw [hR]; rfl
    rcases q with ⟨q1, -⟩ | ⟨q1, rfl⟩
    · omega
    · refine ⟨?_, Mc.rf⟩
      have : w_pop k W = W := by
        unfold w_pop w_R
        rw [hR]
        have e3 : zu W.R k [].tail = W.R := by
          funext j
          by_cases e : j = k
          · rw [e, zu_s, hR]; rfl
          · rw [zu_n _ _ e]
        rw [e3]
      rw [this]
      exact h'
  | cons c l =>
    have e0 : w_len k W = (l.length : Nat) + 1 := by unfold w_len; rw [hR]; rfl
    have hl : l.length + 1 < 100000 := by rw [hR] at hlen; exact hlen
    rcases q with ⟨q1, w, qw, rfl⟩ | ⟨q1, rfl⟩
    · refine ⟨?_, ?_⟩
      · refine SP.row h' hk ?_ (fun hp => ?_) (fun c' hc' => ?_)
        · rw [e1, e0, zw_id (by omega) (by omega), hR]
          show _ = ((l.length : Nat) : Int)
          omega
        · have hch := e2 hp
          rw [hR] at hch
          obtain ⟨z1, z2⟩ := hch
          have hc := h5 k hk c (by rw [hR]; exact List.mem_cons_self)
          have hnp := (h4 hp).2.1
          rcases qw with ⟨-, -, rfl⟩ | ⟨y, -⟩
          · rw [z1, hR]
            exact z2
          · exact absurd ⟨by omega, by omega⟩ y
        · rw [hR] at hc'
          exact h5 k hk c' (by rw [hR]; exact List.mem_cons_of_mem _ hc')
      · refine ⟨fun f a q => ?_, fun a i q => rfl⟩
        unfold zz_c1c at q
        rw [sf_1, if_neg (by omega), sf_1, if_neg (by omega)]
    · omega
theorem w_push_n (mk : Int) (k : Nat) (x : Int) (W : zz_W) : (w_push mk k x W).n = W.n + 1 := rfl
theorem w_pop_n (k : Nat) (W : zz_W) : (w_pop k W).n = W.n := rfl
theorem w_S_n (k : Nat) (v : Int) (W : zz_W) : (w_S k v W).n = W.n := rfl
theorem w_R_n (k : Nat) (l : List Nat) (W : zz_W) : (w_R k l W).n = W.n := rfl
theorem w_move_n (mk : Int) (i j : Nat) (W : zz_W) : (w_move mk i j W).n = W.n + (if W.R i = [] then 0 else 1) := by
  unfold w_move
  cases h : W.R i with
  | nil => rfl
  | cons c l => rfl
theorem w_len_0 {k : Nat} {W : zz_W} : w_len k W = 0 ↔ W.R k = [] := by
  unfold w_len
  cases W.R k with
  | nil => simp
  | cons c l => simp; omega
theorem t_Mill_move {X : zz_X} {σ : zz_M} {p q m s i j : Nat} {W : zz_W} {mk : Int} (hSP : SP σ p m s W) (hmk : σ.1 406 m = mk) (hi : i < 6) (hj : j < 6) (hij : i ≠ j) (hp : 0 < p → (w_move mk i j W).n ≤ p) (hpb : p < 100000) (hl : ∀ k, k < 6 → (W.R k).length < 90000) : zz_T X 3 p_Mill_move [zP 4 p q m, zP 7 0 0 (s + 1 + i), zP 7 0 0 (s + 1 + j)] σ (fun r σ' => r = none ∧ SP σ' p m s (w_move mk i j W) ∧ Mc s m W.n σ σ') := by
  refine zz_mk k_Mill_move o_Mill_move rfl rfl (Nat.le_of_ble_eq_true rfl) ?_
  show zz_G X 3 p_Mill_move 0 [zP 4 p q m, zP 7 0 0 (s + 1 + i), zP 7 0 0 (s + 1 + j)] [] σ _
  subst hmk
  refine zz_gsn 2 rfl ?_
  have el := (hSP.1 i hi).1
  cases hR : W.R i with
  | nil =>
    have e0 : w_len i W = 0 := w_len_0.mpr hR
    have e1 : w_move (σ.1 406 m) i j W = W := by unfold w_move; rw [hR]
    refine zz_br rfl (fun h2 => ?_) (fun h2 => absurd h2 (by omega))
    refine zz_rv rfl rfl ?_
    rw [e1]
    exact ⟨rfl, hSP, Mc.rf⟩
  | cons c l =>
    have e0 : w_len i W = (l.length : Nat) + 1 := by unfold w_len; rw [hR]; rfl
    have e1 : w_move (σ.1 406 m) i j W = w_pop i (w_push (σ.1 406 m) j (W.num c) W) := by unfold w_move; rw [hR]
    have hn : 0 < p → W.n < p := fun z => by have := hp z; rw [w_move_n, hR, if_neg (by simp)] at this; omega
    refine zz_br rfl (fun h2 => absurd h2 (by omega)) (fun h2 => ?_)
    refine zz_gsn 7 rfl ?_
    refine zz_cv (n := 2) rfl rfl (t_Cells_numberOf) (Nat.le_of_ble_eq_true rfl) (Nat.le_of_ble_eq_true rfl) (Nat.le_of_ble_eq_true rfl) (fun r10 σ10 q10 => ?_)
    obtain ⟨rfl, n10, rfl, e10⟩ := q10
    refine zz_gsn 2 rfl ?_
    refine zz_cv (n := 4) rfl rfl (t_Cells_add) (Nat.le_of_ble_eq_true rfl) (Nat.le_of_ble_eq_true rfl) (Nat.le_of_ble_eq_true rfl) (fun r13 σ13 q13 => ?_)
    obtain ⟨rfl, q13⟩ := q13
    have hxy : 0 < p → n10 = W.num c := fun z => by
      obtain ⟨g1, g2, g3⟩ := hSP.2.2.2.1 z
      have hch := (hSP.1 i hi).2 z
      rw [hR] at hch
      have hc := hSP.2.2.2.2 i hi c (by rw [hR]; exact List.mem_cons_self)
      have e5 : (σ.1 700 (s + 1 + i)).toNat = c := by rw [hch.1]; rfl
      rcases e10 with ⟨-, -, e10⟩ | ⟨e10, -⟩
      · rw [e10, e5]
        exact (g3 c hc).1
      · exact absurd ⟨by rw [hch.1]; omega, by rw [hch.1]; omega⟩ e10
    obtain ⟨p13, g13⟩ := sp_add (y := W.num c) hSP hj hn hpb (by have := hl j hj; omega) hxy q13
    refine zz_gsn 3 rfl ?_
    refine zz_cv (n := 2) rfl rfl (t_Cells_dropFirst) (Nat.le_of_ble_eq_true rfl) (Nat.le_of_ble_eq_true rfl) (Nat.le_of_ble_eq_true rfl) (fun r17 σ17 q17 => ?_)
    obtain ⟨rfl, q17⟩ := q17
    obtain ⟨p17, g17⟩ := sp_drop p13 hi (by show ((zu W.R j (W.n :: W.R j)) i).length < 100000; rw [zu_n _ _ hij]; have := hl i hi; omega) q17
    refine zz_rv rfl rfl ?_
    rw [e1]
    refine ⟨rfl, p17, g13.tr g17 (by show W.n ≤ W.n + 1; omega)⟩
end
section
/-! the mill: LAW 0 -/
theorem zz_lse {X : zz_X} {d : Nat} {P : zz_P} {j : Nat} {ls ls' st : List zz_V} {σ : zz_M} {Post : Option zz_V → zz_M → Prop} (h : ls = ls') (k : zz_G X d P j ls' st σ Post) : zz_G X d P j ls st σ Post := h ▸ k
theorem w_mvs_le (mk : Int) (i j : Nat) : ∀ (r : Nat) (W : zz_W), W.n ≤ (w_mvs mk i j r W).n
  | 0, W => Nat.le_refl _
  | r + 1, W => by
    have h := w_mvs_le mk i j r (w_move mk i j W)
    rw [w_move_n] at h
    show W.n ≤ (w_mvs mk i j r (w_move mk i j W)).n
    omega
theorem w_move_R {mk : Int} {i j : Nat} {W : zz_W} (hij : i ≠ j) {c : Nat} {l : List Nat} (h : W.R i = c :: l) : (w_move mk i j W).R i = l ∧ (w_move mk i j W).R j = W.n :: W.R j ∧ ∀ k, k ≠ i → k ≠ j → (w_move mk i j W).R k = W.R k := by
  unfold w_move
  rw [h]
  refine ⟨?_, ?_, fun k h1 h2 => ?_⟩
  · show (zu (zu W.R j (W.n :: W.R j)) i ((zu W.R j (W.n :: W.R j)) i).tail) i = l
    rw [zu_s, zu_n _ _ hij, h]
    rfl
  · show (zu (zu W.R j (W.n :: W.R j)) i ((zu W.R j (W.n :: W.R j)) i).tail) j = _
    rw [zu_n _ _ (Ne.symm hij), zu_s]
  · show (zu (zu W.R j (W.n :: W.R j)) i ((zu W.R j (W.n :: W.R j)) i).tail) k = _
    rw [zu_n _ _ h1, zu_n _ _ h2]
theorem w_move_S (mk : Int) (i j : Nat) (W : zz_W) : (w_move mk i j W).S = W.S := by
  unfold w_move
  cases W.R i with
  | nil => rfl
  | cons c l => rfl
theorem lp_turnAtOnce {X : zz_X} {p q m s : Nat} {mk : Int} {Post : Option zz_V → zz_M → Prop} (hpb : p < 100000) (many : Nat) (hmany : many < 80000) : ∀ (r : Nat) (W : zz_W) (σ : zz_M), r ≤ many → SP σ p m s W → σ.1 406 m = mk → (W.R 1).length = r → (0 < p → (w_mvs mk 1 0 r W).n ≤ p) → (W.R 0).length + r < 85000 → (∀ k, k < 6 → k ≠ 0 → (W.R k).length < 85000) → (∀ σ', SP σ' p m s (w_mvs mk 1 0 r W) → Mc s m W.n σ σ' → zz_G X 4 p_Mill_turnAtOnce 29 [zP 4 p q m, zP 9 0 0 s, zI many, zI many] [] σ' Post) → zz_G X 4 p_Mill_turnAtOnce 18 [zP 4 p q m, zP 9 0 0 s, zI many, zI ((many - r : Nat) : Int)] [] σ Post := by
  intro r
  induction r with
  | zero =>
    intro W σ hr hSP hmk hlen hp h0 hl k
    refine zz_gsn 2 rfl ?_
    refine zz_br rfl (fun h20 => ?_) (fun h20 => absurd h20 (by omega))
    exact k σ hSP Mc.rf
  | succ r ih =>
    intro W σ hr hSP hmk hlen hp h0 hl k
    obtain ⟨c, l, hR⟩ : ∃ c l, W.R 1 = c :: l := by
      cases h : W.R 1 with
      | nil => rw [h] at hlen; cases hlen
      | cons c l => exact ⟨c, l, rfl⟩
    have hle := w_mvs_le mk 1 0 r (w_move mk 1 0 W)
    refine zz_gsn 2 rfl ?_
    refine zz_br rfl (fun h20 => absurd h20 (by omega)) (fun h20 => ?_)
    refine zz_gsn 5 rfl ?_
    refine zz_cv (n := 3) rfl rfl (t_Mill_move (i := 1) (j := 0) hSP hmk (by decide) (by decide) (by decide) (fun z => Nat.le_trans hle (hp z)) hpb (fun k hk => by rcases Nat.eq_zero_or_pos k with e | e <;> first | (subst e; omega) | (have := hl k hk (by omega); omega))) (Nat.le_of_ble_eq_true rfl) (Nat.le_of_ble_eq_true rfl) (Nat.le_of_ble_eq_true rfl) (fun r26 σ26 q26 => ?_)
    obtain ⟨rfl, p26, g26⟩ := q26
    refine zz_gsn 1 rfl ?_
    refine zz_jp rfl ?_
    have ew : zw (((many - (r + 1) : Nat) : Int) + 1) = ((many - r : Nat) : Int) := by rw [zw_id (by omega) (by omega)]; omega
    rw [ew]
    obtain ⟨b1, b2, b3⟩ := w_move_R (mk := mk) (i := 1) (j := 0) (by decide) hR
    have hl1 : l.length = r := by rw [hR] at hlen; simpa using hlen
    refine ih (w_move mk 1 0 W) _ (by omega) p26 (by rw [g26.m (by omega)]; exact hmk) (by rw [b1]; exact hl1) hp (by rw [b2, List.length_cons]; omega) (fun k hk hk0 => ?_) (fun σ' hS' hM' => ?_)
    · by_cases e : k = 1
      · subst e
        rw [b1]
        have := hl 1 hk hk0
        rw [hR, List.length_cons] at this
        omega
      · rw [b3 k e hk0]
        exact hl k hk hk0
    · exact k σ' hS' (g26.tr hM' (by rw [w_move_n]; omega))
theorem t_Mill_turnAtOnce {X : zz_X} {σ : zz_M} {p q m s : Nat} {W : zz_W} {mk : Int} (hSP : SP σ p m s W) (hmk : σ.1 406 m = mk) (h401 : σ.1 401 m = 0) (h407 : 0 ≤ σ.1 407 m ∧ σ.1 407 m < 1000000) (hp : 0 < p → (w_all mk W).n ≤ p) (hpb : p < 100000) (hl : ∀ k, k < 6 → (W.R k).length < 40000) : zz_T X 4 p_Mill_turnAtOnce [zP 4 p q m, zP 9 0 0 s] σ (fun r σ' => r = none ∧ SP σ' p m s (w_all mk W) ∧ Mg s m W.n σ σ' ∧ σ'.1 401 m = w_allB W ∧ σ'.1 402 m = σ.1 402 m ∧ σ'.1 406 m = mk ∧ σ'.1 407 m = σ.1 407 m + w_allS W) := by
  refine zz_mk k_Mill_turnAtOnce o_Mill_turnAtOnce rfl rfl (Nat.le_of_ble_eq_true rfl) ?_
  show zz_G X 4 p_Mill_turnAtOnce 0 [zP 4 p q m, zP 9 0 0 s, zU, zU] [] σ _
  have e0 : σ.1 701 (s + 1) = w_len 0 W := (hSP.1 0 (by decide)).1
  have e1 : σ.1 701 (s + 2) = w_len 1 W := (hSP.1 1 (by decide)).1
  have hn0 : 0 ≤ w_len 0 W := Int.natCast_nonneg _
  have hn1 : 0 ≤ w_len 1 W := Int.natCast_nonneg _
  have hb0 : (W.R 1).length < 40000 := hl 1 (by decide)
  have hb1 : w_len 1 W < 40000 := by unfold w_len; omega
  have hz0 := w_len_0 (k := 0) (W := W)
  have hz1 := w_len_0 (k := 1) (W := W)
  refine zz_gsn 3 rfl ?_
  refine zz_br rfl (fun h3 => ?_) (fun h3 => ?_)
  · refine zz_gsn 6 rfl ?_
    refine zz_br rfl (fun h11 => ?_) (fun h11 => ?_)
    · refine zz_gsn 1 rfl ?_
      refine zz_ptz rfl (by first | exact Or.inl rfl | exact Or.inr rfl | omega) ?_
      refine zz_gsn 2 rfl ?_
      have hR0 : W.R 0 = [] := hz0.mp (by omega)
      have hall : w_all mk W = w_mvs mk 1 0 (W.R 1).length W := if_pos hR0
      have hS2 : SP (zz_sf σ 401 m 0) p m s W := hSP.mf (by omega)
      rw [hall] at hp ⊢
      refine zz_lse (ls' := [zP 4 p q m, zP 9 0 0 s, zI ((W.R 1).length : Nat), zI (((W.R 1).length - (W.R 1).length : Nat) : Int)]) (by show [zP 4 p q m, zP 9 0 0 s, zI (σ.1 701 (s + 2)), zI 0] = _; rw [e1, Nat.sub_self]; rfl) ?_
      refine lp_turnAtOnce hpb (W.R 1).length (by have := hl 1 (by decide); omega) (W.R 1).length W _ (Nat.le_refl _) hS2 (by rw [sf_f _ _ (by omega)]; exact hmk) rfl hp (by rw [hR0]; have := hl 1 (by decide); show 0 + _ < _; omega) (fun k hk _ => by have := hl k hk; omega) (fun σ' hS' hM' => ?_)
      have q407 : σ'.1 407 m = σ.1 407 m := by rw [hM'.m (by omega), sf_f _ _ (by omega)]
      have q401 : σ'.1 401 m = 0 := by rw [hM'.m (by omega), sf_h]
      have q402 : σ'.1 402 m = σ.1 402 m := by rw [hM'.m (by omega), sf_f _ _ (by omega)]
      have q406 : σ'.1 406 m = σ.1 406 m := by rw [hM'.m (by omega), sf_f _ _ (by omega)]
      have hM2 : Mg s m W.n σ σ' := (Mg.sf (Or.inr (Or.inr (Or.inr ⟨rfl, Or.inl rfl⟩)))).tr hM'.g (Nat.le_refl _)
      have eS : w_allS W = w_len 1 W := if_pos hR0
      have eB : w_allB W = 0 := by unfold w_allB; rw [if_neg (fun z => z.2 (hz1.mp (by omega)))]
      refine zz_gsn 6 rfl ?_
      refine zz_rv rfl rfl ?_
      refine ⟨rfl, hS'.mf (by omega), hM2.tr (Mg.sf (Or.inr (Or.inr (Or.inr ⟨rfl, Or.inr (Or.inr (Or.inr rfl))⟩)))) (Nat.le_refl _), ?_, ?_, ?_, ?_⟩
      · rw [sf_f _ _ (by omega), q401, eB]
      · rw [sf_f _ _ (by omega), q402]
      · rw [sf_f _ _ (by omega), q406, hmk]
      · rw [sf_h, q407, eS, zw_id (by omega) (by omega)]
    · refine zz_gsn 1 rfl ?_
      refine zz_jp rfl ?_
      refine zz_ptz rfl (by first | exact Or.inl rfl | exact Or.inr rfl | omega) ?_
      refine zz_gsn 2 rfl ?_
      have hR0 : W.R 0 = [] := hz0.mp (by omega)
      have hall : w_all mk W = w_mvs mk 1 0 (W.R 1).length W := if_pos hR0
      have hS2 : SP (zz_sf σ 401 m 1) p m s W := hSP.mf (by omega)
      rw [hall] at hp ⊢
      refine zz_lse (ls' := [zP 4 p q m, zP 9 0 0 s, zI ((W.R 1).length : Nat), zI (((W.R 1).length - (W.R 1).length : Nat) : Int)]) (by show [zP 4 p q m, zP 9 0 0 s, zI (σ.1 701 (s + 2)), zI 0] = _; rw [e1, Nat.sub_self]; rfl) ?_
      refine lp_turnAtOnce hpb (W.R 1).length (by have := hl 1 (by decide); omega) (W.R 1).length W _ (Nat.le_refl _) hS2 (by rw [sf_f _ _ (by omega)]; exact hmk) rfl hp (by rw [hR0]; have := hl 1 (by decide); show 0 + _ < _; omega) (fun k hk _ => by have := hl k hk; omega) (fun σ' hS' hM' => ?_)
      have q407 : σ'.1 407 m = σ.1 407 m := by rw [hM'.m (by omega), sf_f _ _ (by omega)]
      have q401 : σ'.1 401 m = 1 := by rw [hM'.m (by omega), sf_h]
      have q402 : σ'.1 402 m = σ.1 402 m := by rw [hM'.m (by omega), sf_f _ _ (by omega)]
      have q406 : σ'.1 406 m = σ.1 406 m := by rw [hM'.m (by omega), sf_f _ _ (by omega)]
      have hM2 : Mg s m W.n σ σ' := (Mg.sf (Or.inr (Or.inr (Or.inr ⟨rfl, Or.inl rfl⟩)))).tr hM'.g (Nat.le_refl _)
      have eS : w_allS W = w_len 1 W := if_pos hR0
      have eB : w_allB W = 1 := by unfold w_allB; rw [if_pos ⟨hR0, fun z => by have := hz1.mpr z; omega⟩]
      refine zz_gsn 6 rfl ?_
      refine zz_rv rfl rfl ?_
      refine ⟨rfl, hS'.mf (by omega), hM2.tr (Mg.sf (Or.inr (Or.inr (Or.inr ⟨rfl, Or.inr (Or.inr (Or.inr rfl))⟩)))) (Nat.le_refl _), ?_, ?_, ?_, ?_⟩
      · rw [sf_f _ _ (by omega), q401, eB]
      · rw [sf_f _ _ (by omega), q402]
      · rw [sf_f _ _ (by omega), q406, hmk]
      · rw [sf_h, q407, eS, zw_id (by omega) (by omega)]
  · refine zz_rv rfl rfl ?_
    have hR0 : W.R 0 ≠ [] := fun z => by have := hz0.mpr z; omega
    have hall : w_all mk W = W := if_neg hR0
    have eS : w_allS W = 0 := if_neg hR0
    have eB : w_allB W = 0 := if_neg (fun z => hR0 z.1)
    rw [hall, eS, eB]
    exact ⟨rfl, hSP, Mg.rf, h401, rfl, hmk, by omega⟩
end
section
/-! the mill: LAW 1 -/
theorem SP.clr {σ : zz_M} {p m s : Nat} {W : zz_W} (h : SP σ p m s W) {k : Nat} (hk : k < 6) : SP (zz_sf (zz_sf σ 700 (s + 1 + k) (-1)) 701 (s + 1 + k) 0) p m s (w_R k [] W) := h.row hk rfl (fun _ => rfl) (fun c hc => by cases hc)
theorem SP.cpy {σ : zz_M} {p m s : Nat} {W : zz_W} (h : SP σ p m s W) {i j : Nat} (hi : i < 6) (hj : j < 6) : SP (zz_sf (zz_sf σ 700 (s + 1 + i) (σ.1 700 (s + 1 + j))) 701 (s + 1 + i) (σ.1 701 (s + 1 + j))) p m s (w_R i (W.R j) W) := h.row hi (h.1 j hj).1 (fun hp => (h.1 j hj).2 hp) (fun c hc => h.2.2.2.2 j hj c hc)
theorem Mc.row {s m n k : Nat} {σ : zz_M} {a b : Int} (hk : k < 6) : Mc s m n σ (zz_sf (zz_sf σ 700 (s + 1 + k) a) 701 (s + 1 + k) b) := (Mc.sf (Or.inl ⟨by omega, by omega, Or.inl rfl⟩)).tr (Mc.sf (Or.inl ⟨by omega, by omega, Or.inr rfl⟩)) (Nat.le_refl _)
theorem Mc.st {s m n f : Nat} {σ : zz_M} {v : Int} (hf : 906 ≤ f ∧ f ≤ 911) : Mc s m n σ (zz_sf σ f s v) := Mc.sf (Or.inr (Or.inl ⟨rfl, hf.1, hf.2⟩))
theorem Mg.mi {s m n f : Nat} {σ : zz_M} {v : Int} (hf : f = 401 ∨ f = 402 ∨ f = 406 ∨ f = 407) : Mg s m n σ (zz_sf σ f m v) := Mg.sf (Or.inr (Or.inr (Or.inr ⟨rfl, hf⟩)))
theorem t_State_clearTurn {X : zz_X} {σ : zz_M} {p m s : Nat} {W : zz_W} (hSP : SP σ p m s W) : zz_T X 2 p_State_clearTurn [zP 9 0 0 s] σ (fun r σ' => r = none ∧ SP σ' p m s (w_clr W) ∧ Mc s m W.n σ σ') := by
  refine zz_mk k_State_clearTurn o_State_clearTurn rfl rfl (Nat.le_of_ble_eq_true rfl) ?_
  show zz_G X 2 p_State_clearTurn 0 [zP 9 0 0 s] [] σ _
  refine zz_gsn 2 rfl ?_
  refine zz_cv (n := 1) rfl rfl (t_Row_clear) (Nat.le_of_ble_eq_true rfl) (Nat.le_of_ble_eq_true rfl) (Nat.le_of_ble_eq_true rfl) (fun r2 σ2 q2 => ?_)
  obtain ⟨rfl, rfl⟩ := q2
  have p2 := hSP.clr (k := 2) (by decide)
  refine zz_gsn 2 rfl ?_
  refine zz_cv (n := 1) rfl rfl (t_Row_clear) (Nat.le_of_ble_eq_true rfl) (Nat.le_of_ble_eq_true rfl) (Nat.le_of_ble_eq_true rfl) (fun r5 σ5 q5 => ?_)
  obtain ⟨rfl, rfl⟩ := q5
  have p5 := p2.clr (k := 3) (by decide)
  refine zz_gsn 2 rfl ?_
  refine zz_cv (n := 1) rfl rfl (t_Row_clear) (Nat.le_of_ble_eq_true rfl) (Nat.le_of_ble_eq_true rfl) (Nat.le_of_ble_eq_true rfl) (fun r8 σ8 q8 => ?_)
  obtain ⟨rfl, rfl⟩ := q8
  have p8 := p5.clr (k := 4) (by decide)
  refine zz_gsn 2 rfl ?_
  refine zz_cv (n := 1) rfl rfl (t_Row_clear) (Nat.le_of_ble_eq_true rfl) (Nat.le_of_ble_eq_true rfl) (Nat.le_of_ble_eq_true rfl) (fun r11 σ11 q11 => ?_)
  obtain ⟨rfl, rfl⟩ := q11
  have p11 := p8.clr (k := 5) (by decide)
  refine zz_gsn 6 rfl ?_
  refine zz_rv rfl rfl ?_
  exact ⟨rfl, (p11.st (j := 7) (v := 0) (by decide)).st (j := 8) (v := 0) (by decide), (((((Mc.row (k := 2) (by decide)).tr (Mc.row (k := 3) (by decide)) (Nat.le_refl _)).tr (Mc.row (k := 4) (by decide)) (Nat.le_refl _)).tr (Mc.row (k := 5) (by decide)) (Nat.le_refl _)).tr (Mc.st (by decide)) (Nat.le_refl _)).tr (Mc.st (by decide)) (Nat.le_refl _)⟩
theorem t_Mill_beginTurning {X : zz_X} {σ : zz_M} {p q m s : Nat} {W : zz_W} (hSP : SP σ p m s W) (hl : (W.R 1).length < 80000) (hS : -1000000 < W.S 6 ∧ W.S 6 < 1000000) : zz_T X 3 p_Mill_beginTurning [zP 4 p q m, zP 9 0 0 s] σ (fun r σ' => r = none ∧ SP σ' p m s (w_beg W) ∧ Mg s m W.n σ σ' ∧ σ'.1 401 m = 1 ∧ σ'.1 402 m = (if W.S 7 ≠ 0 then 1 else 0) ∧ σ'.1 406 m = σ.1 406 m ∧ σ'.1 407 m = σ.1 407 m) := by
  refine zz_mk k_Mill_beginTurning o_Mill_beginTurning rfl rfl (Nat.le_of_ble_eq_true rfl) ?_
  show zz_G X 3 p_Mill_beginTurning 0 [zP 4 p q m, zP 9 0 0 s] [] σ _
  have e7 : σ.1 908 s = W.S 7 := hSP.2.1 7 (by decide) (by decide)
  refine zz_gsn 2 rfl ?_
  refine zz_ptz rfl (by first | exact Or.inl rfl | exact Or.inr rfl | omega) ?_
  refine zz_gsn 3 rfl ?_
  refine zz_br rfl (fun h6 => ?_) (fun h6 => ?_)
  · refine zz_gsn 1 rfl ?_
    refine zz_ptz rfl (by first | exact Or.inl rfl | exact Or.inr rfl | omega) ?_
    refine zz_gsn 1 rfl ?_
    refine zz_cv (n := 1) rfl rfl (t_State_clearTurn (p := p) (m := m) (W := W) (SP.mf (SP.mf hSP (by omega)) (by omega))) (Nat.le_of_ble_eq_true rfl) (Nat.le_of_ble_eq_true rfl) (Nat.le_of_ble_eq_true rfl) (fun r12 σ12 q12 => ?_)
    obtain ⟨rfl, p12, g12⟩ := q12
    have hov : (0 : Int) = if W.S 7 ≠ 0 then 1 else 0 := by rw [if_neg (fun z => z (e7 ▸ h6))]
    have b1 : σ12.1 401 m = 1 := by rw [g12.m (by omega), sf_f _ _ (by omega), sf_h]
    have b2 : σ12.1 402 m = 0 := by rw [g12.m (by omega), sf_h]
    have b3 : σ12.1 406 m = σ.1 406 m := by rw [g12.m (by omega), sf_f _ _ (by omega), sf_f _ _ (by omega)]
    have b4 : σ12.1 407 m = σ.1 407 m := by rw [g12.m (by omega), sf_f _ _ (by omega), sf_f _ _ (by omega)]
    have g12' : Mg s m W.n σ σ12 := ((Mg.mi (Or.inl rfl)).tr (Mg.mi (Or.inr (Or.inl rfl))) (Nat.le_refl _)).tr g12.g (Nat.le_refl _)
    clear g12
    refine zz_gsn 7 rfl ?_
    refine zz_cv (n := 2) rfl rfl (t_Row_become) (Nat.le_of_ble_eq_true rfl) (Nat.le_of_ble_eq_true rfl) (Nat.le_of_ble_eq_true rfl) (fun r20 σ20 q20 => ?_)
    obtain ⟨rfl, q20⟩ := q20
    have p20 : SP σ20 p m s (w_R 2 (W.R 0) (w_S 7 1 (w_clr W))) := by rw [q20]; exact (p12.st (j := 7) (v := 1) (by decide)).cpy (i := 2) (j := 0) (by decide) (by decide)
    have g20 : Mc s m W.n σ12 σ20 := by rw [q20]; exact (Mc.st (by decide)).tr (Mc.row (k := 2) (by decide)) (Nat.le_refl _)
    clear q20
    refine zz_gsn 4 rfl ?_
    refine zz_cv (n := 2) rfl rfl (t_Row_become) (Nat.le_of_ble_eq_true rfl) (Nat.le_of_ble_eq_true rfl) (Nat.le_of_ble_eq_true rfl) (fun r25 σ25 q25 => ?_)
    obtain ⟨rfl, q25⟩ := q25
    have p25 : SP σ25 p m s (w_R 4 (W.R 1) (w_R 2 (W.R 0) (w_S 7 1 (w_clr W)))) := by rw [q25]; exact p20.cpy (i := 4) (j := 1) (by decide) (by decide)
    have g25 : Mc s m W.n σ20 σ25 := by rw [q25]; exact Mc.row (k := 4) (by decide)
    clear q25
    have c6 : σ25.1 907 s = W.S 6 := p25.2.1 6 (by decide) (by decide)
    have c1 : σ25.1 701 (s + 2) = w_len 1 W := (p25.1 1 (by decide)).1
    have hwl : w_len 1 W = ((W.R 1).length : Nat) := rfl
    have ec : zw (σ25.1 907 s + σ25.1 701 (s + 2)) = W.S 6 + w_len 1 W := by rw [c6, c1, zw_id (by omega) (by omega)]
    refine zz_gsn 10 rfl ?_
    refine zz_cv (n := 1) rfl rfl (t_Row_clear) (Nat.le_of_ble_eq_true rfl) (Nat.le_of_ble_eq_true rfl) (Nat.le_of_ble_eq_true rfl) (fun r36 σ36 q36 => ?_)
    obtain ⟨rfl, q36⟩ := q36
    have p36 : SP σ36 p m s (w_beg W) := by rw [q36, ec]; exact (p25.st (j := 6) (v := W.S 6 + w_len 1 W) (by decide)).clr (k := 1) (by decide)
    have g36 : Mc s m W.n σ12 σ36 := by rw [q36]; exact (g20.tr g25 (Nat.le_refl _)).tr ((Mc.st (by decide)).tr (Mc.row (k := 1) (by decide)) (Nat.le_refl _)) (Nat.le_refl _)
    refine zz_rv rfl rfl ?_
    refine ⟨rfl, p36, g12'.tr g36.g (Nat.le_refl _), ?_, ?_, ?_, ?_⟩
    · rw [g36.m (by omega)]; exact b1
    · rw [g36.m (by omega)]; exact b2.trans hov
    · rw [g36.m (by omega)]; exact b3
    · rw [g36.m (by omega)]; exact b4
  · refine zz_gsn 1 rfl ?_
    refine zz_jp rfl ?_
    refine zz_ptz rfl (by first | exact Or.inl rfl | exact Or.inr rfl | omega) ?_
    refine zz_gsn 1 rfl ?_
    refine zz_cv (n := 1) rfl rfl (t_State_clearTurn (p := p) (m := m) (W := W) (SP.mf (SP.mf hSP (by omega)) (by omega))) (Nat.le_of_ble_eq_true rfl) (Nat.le_of_ble_eq_true rfl) (Nat.le_of_ble_eq_true rfl) (fun r12 σ12 q12 => ?_)
    obtain ⟨rfl, p12, g12⟩ := q12
    have hov : (1 : Int) = if W.S 7 ≠ 0 then 1 else 0 := by rw [if_pos (fun z => h6 (e7.trans z))]
    have b1 : σ12.1 401 m = 1 := by rw [g12.m (by omega), sf_f _ _ (by omega), sf_h]
    have b2 : σ12.1 402 m = 1 := by rw [g12.m (by omega), sf_h]
    have b3 : σ12.1 406 m = σ.1 406 m := by rw [g12.m (by omega), sf_f _ _ (by omega), sf_f _ _ (by omega)]
    have b4 : σ12.1 407 m = σ.1 407 m := by rw [g12.m (by omega), sf_f _ _ (by omega), sf_f _ _ (by omega)]
    have g12' : Mg s m W.n σ σ12 := ((Mg.mi (Or.inl rfl)).tr (Mg.mi (Or.inr (Or.inl rfl))) (Nat.le_refl _)).tr g12.g (Nat.le_refl _)
    clear g12
    refine zz_gsn 7 rfl ?_
    refine zz_cv (n := 2) rfl rfl (t_Row_become) (Nat.le_of_ble_eq_true rfl) (Nat.le_of_ble_eq_true rfl) (Nat.le_of_ble_eq_true rfl) (fun r20 σ20 q20 => ?_)
    obtain ⟨rfl, q20⟩ := q20
    have p20 : SP σ20 p m s (w_R 2 (W.R 0) (w_S 7 1 (w_clr W))) := by rw [q20]; exact (p12.st (j := 7) (v := 1) (by decide)).cpy (i := 2) (j := 0) (by decide) (by decide)
    have g20 : Mc s m W.n σ12 σ20 := by rw [q20]; exact (Mc.st (by decide)).tr (Mc.row (k := 2) (by decide)) (Nat.le_refl _)
    clear q20
    refine zz_gsn 4 rfl ?_
    refine zz_cv (n := 2) rfl rfl (t_Row_become) (Nat.le_of_ble_eq_true rfl) (Nat.le_of_ble_eq_true rfl) (Nat.le_of_ble_eq_true rfl) (fun r25 σ25 q25 => ?_)
    obtain ⟨rfl, q25⟩ := q25
    have p25 : SP σ25 p m s (w_R 4 (W.R 1) (w_R 2 (W.R 0) (w_S 7 1 (w_clr W)))) := by rw [q25]; exact p20.cpy (i := 4) (j := 1) (by decide) (by decide)
    have g25 : Mc s m W.n σ20 σ25 := by rw [q25]; exact Mc.row (k := 4) (by decide)
    clear q25
    have c6 : σ25.1 907 s = W.S 6 := p25.2.1 6 (by decide) (by decide)
    have c1 : σ25.1 701 (s + 2) = w_len 1 W := (p25.1 1 (by decide)).1
    have hwl : w_len 1 W = ((W.R 1).length : Nat) := rfl
    have ec : zw (σ25.1 907 s + σ25.1 701 (s + 2)) = W.S 6 + w_len 1 W := by rw [c6, c1, zw_id (by omega) (by omega)]
    refine zz_gsn 10 rfl ?_
    refine zz_cv (n := 1) rfl rfl (t_Row_clear) (Nat.le_of_ble_eq_true rfl) (Nat.le_of_ble_eq_true rfl) (Nat.le_of_ble_eq_true rfl) (fun r36 σ36 q36 => ?_)
    obtain ⟨rfl, q36⟩ := q36
    have p36 : SP σ36 p m s (w_beg W) := by rw [q36, ec]; exact (p25.st (j := 6) (v := W.S 6 + w_len 1 W) (by decide)).clr (k := 1) (by decide)
    have g36 : Mc s m W.n σ12 σ36 := by rw [q36]; exact (g20.tr g25 (Nat.le_refl _)).tr ((Mc.st (by decide)).tr (Mc.row (k := 1) (by decide)) (Nat.le_refl _)) (Nat.le_refl _)
    refine zz_rv rfl rfl ?_
    refine ⟨rfl, p36, g12'.tr g36.g (Nat.le_refl _), ?_, ?_, ?_, ?_⟩
    · rw [g36.m (by omega)]; exact b1
    · rw [g36.m (by omega)]; exact b2.trans hov
    · rw [g36.m (by omega)]; exact b3
    · rw [g36.m (by omega)]; exact b4
theorem w_move_le (mk : Int) (i j : Nat) (W : zz_W) : W.n ≤ (w_move mk i j W).n := by
  rw [w_move_n]
  omega
theorem w_move_len {mk : Int} {i j k : Nat} {W : zz_W} {B : Nat} (hij : i ≠ j) (h : (W.R k).length + 1 < B) : ((w_move mk i j W).R k).length < B := by
  cases hR : W.R i with
  | nil =>
    have : w_move mk i j W = W := by unfold w_move; rw [hR]
    rw [this]
    omega
  | cons c l =>
    obtain ⟨b1, b2, b3⟩ := w_move_R (mk := mk) hij hR
    by_cases e : k = i
    · subst e
      rw [b1]
      rw [hR, List.length_cons] at h
      omega
    · by_cases e2 : k = j
      · subst e2
        rw [b2, List.length_cons]
        exact h
      · rw [b3 k e e2]
        omega
theorem t_Mill_turnOnce {X : zz_X} {σ : zz_M} {p q m s : Nat} {W : zz_W} {mk : Int} (hSP : SP σ p m s W) (hmk : σ.1 406 m = mk) (hp : 0 < p → (w_trn mk W).n ≤ p) (hpb : p < 100000) (hl : ∀ k, k < 6 → (W.R k).length < 80000) (hS : -1000000 < W.S 8 ∧ W.S 8 < 1000000) (h407 : 0 ≤ σ.1 407 m ∧ σ.1 407 m < 1000000) : zz_T X 4 p_Mill_turnOnce [zP 4 p q m, zP 9 0 0 s] σ (fun r σ' => r = none ∧ SP σ' p m s (w_trn mk W) ∧ Mg s m W.n σ σ' ∧ σ'.1 401 m = σ.1 401 m ∧ σ'.1 402 m = σ.1 402 m ∧ σ'.1 406 m = σ.1 406 m ∧ σ'.1 407 m = σ.1 407 m + w_trnS W) := by
  refine zz_mk k_Mill_turnOnce o_Mill_turnOnce rfl rfl (Nat.le_of_ble_eq_true rfl) ?_
  show zz_G X 4 p_Mill_turnOnce 0 [zP 4 p q m, zP 9 0 0 s] [] σ _
  have e7' : σ.1 908 s = W.S 7 := hSP.2.1 7 (by decide) (by decide)
  have e8' : σ.1 909 s = W.S 8 := hSP.2.1 8 (by decide) (by decide)
  have e2 : σ.1 701 (s + 3) = w_len 2 W := (hSP.1 2 (by decide)).1
  have hz2 := w_len_0 (k := 2) (W := W)
  have hn2 : 0 ≤ w_len 2 W := Int.natCast_nonneg _
  refine zz_gsn 3 rfl ?_
  refine zz_br rfl (fun h3 => ?_) (fun h3 => ?_)
  · refine zz_gsn 3 rfl ?_
    refine zz_br rfl (fun h40 => ?_) (fun h40 => ?_)
    · refine zz_gsn 3 rfl ?_
      refine zz_br rfl (fun h66 => ?_) (fun h66 => ?_)
      · refine zz_rv rfl rfl ?_
        have n7 : ¬ W.S 7 = 1 := fun z => h3 (e7'.trans z)
        have n72 : ¬ W.S 7 = 2 := fun z => h40 (e7'.trans z)
        have eT : w_trn mk W = W := by unfold w_trn; rw [if_neg n7, if_neg n72]
        have eS : w_trnS W = 0 := if_neg (fun z => z.elim n7 n72)
        rw [eT, eS]
        exact ⟨rfl, hSP, Mg.rf, rfl, rfl, rfl, by omega⟩
      · refine zz_gsn 9 rfl ?_
        refine zz_rv rfl rfl ?_
        exact absurd h66 h40
    · refine zz_gsn 2 rfl ?_
      refine zz_br rfl (fun h43 => ?_) (fun h43 => ?_)
      · refine zz_gsn 3 rfl ?_
        refine zz_br rfl (fun h66 => ?_) (fun h66 => ?_)
        · refine zz_rv rfl rfl ?_
          exact absurd h40 h66
        · refine zz_gsn 9 rfl ?_
          refine zz_rv rfl rfl ?_
          have e7 : W.S 7 = 2 := e7'.symm.trans h66
          have n7 : ¬ W.S 7 = 1 := by omega
          have eT : w_trn mk W = w_S 7 3 W := by unfold w_trn; rw [if_neg n7, if_pos e7, if_neg (by omega)]
          have eS : w_trnS W = 1 := if_pos (Or.inr e7)
          rw [eT, eS]
          have ew : zw (σ.1 407 m + 1) = σ.1 407 m + 1 := zw_id (by omega) (by omega)
          rw [ew]
          exact ⟨rfl, (hSP.mf (by omega)).st (j := 7) (by decide), (Mg.mi (Or.inr (Or.inr (Or.inr rfl)))).tr (Mc.g (Mc.st (by decide))) (Nat.le_refl _), by rw [sf_f _ _ (by omega), sf_f _ _ (by omega)], by rw [sf_f _ _ (by omega), sf_f _ _ (by omega)], by rw [sf_f _ _ (by omega), sf_f _ _ (by omega)], by rw [sf_f _ _ (by omega), sf_h]⟩
      · have e7 : W.S 7 = 2 := e7'.symm.trans h40
        have n7 : ¬ W.S 7 = 1 := by omega
        have eT : w_trn mk W = w_S 8 (W.S 8 - 1) (w_move mk 3 5 W) := by unfold w_trn; rw [if_neg n7, if_pos e7, if_pos (by omega)]
        have eS : w_trnS W = 1 := if_pos (Or.inr e7)
        refine zz_gsn 11 rfl ?_
        refine zz_cv (n := 3) rfl rfl (t_Mill_move (i := 3) (j := 5) (W := W) (mk := mk) (SP.mf hSP (by omega)) (by rw [sf_f _ _ (by omega)]; exact hmk) (by decide) (by decide) (by decide) (fun z => by have := hp z; rw [eT] at this; exact this) hpb (fun k hk => by have := hl k hk; omega)) (Nat.le_of_ble_eq_true rfl) (Nat.le_of_ble_eq_true rfl) (Nat.le_of_ble_eq_true rfl) (fun r55 σ55 q55 => ?_)
        obtain ⟨rfl, p55, g55⟩ := q55
        have ew : zw (σ.1 407 m + 1) = σ.1 407 m + 1 := zw_id (by omega) (by omega)
        have gA : Mg s m W.n σ (zz_sf σ 407 m (zw (σ.1 407 m + 1))) := Mg.mi (Or.inr (Or.inr (Or.inr rfl)))
        have b1 : (zz_sf σ 407 m (zw (σ.1 407 m + 1))).1 401 m = σ.1 401 m := by rw [sf_f _ _ (by omega)]
        have b2 : (zz_sf σ 407 m (zw (σ.1 407 m + 1))).1 402 m = σ.1 402 m := by rw [sf_f _ _ (by omega)]
        have b3 : (zz_sf σ 407 m (zw (σ.1 407 m + 1))).1 406 m = σ.1 406 m := by rw [sf_f _ _ (by omega)]
        have b4 : (zz_sf σ 407 m (zw (σ.1 407 m + 1))).1 407 m = σ.1 407 m + 1 := by rw [sf_h, ew]
        refine zz_gsn 6 rfl ?_
        refine zz_jp rfl ?_
        refine zz_rv rfl rfl ?_
        rw [eT, eS]
        have q8 : σ55.1 909 s = W.S 8 := by have := p55.2.1 8 (by decide) (by decide); rw [w_move_S] at this; exact this
        have ew : zw (σ55.1 909 s - 1) = W.S 8 - 1 := by rw [q8, zw_id (by omega) (by omega)]
        rw [ew]
        exact ⟨rfl, p55.st (j := 8) (by decide), (gA.tr g55.g (Nat.le_refl _)).tr (Mc.g (Mc.st (by decide))) (Nat.le_refl _), (Mc.m (n := 0) (Mc.st (by decide)) (by omega)).trans ((g55.m (by omega)).trans b1), (Mc.m (n := 0) (Mc.st (by decide)) (by omega)).trans ((g55.m (by omega)).trans b2), (Mc.m (n := 0) (Mc.st (by decide)) (by omega)).trans ((g55.m (by omega)).trans b3), (Mc.m (n := 0) (Mc.st (by decide)) (by omega)).trans ((g55.m (by omega)).trans b4)⟩
  · refine zz_gsn 9 rfl ?_
    refine zz_br rfl (fun h13 => ?_) (fun h13 => ?_)
    · have e7 : W.S 7 = 1 := e7'.symm.trans h3
      have hR2 : W.R 2 = [] := hz2.mp (by have h13' : σ.1 701 (s + 3) ≤ 0 := h13; omega)
      have eT : w_trn mk W = w_move mk 4 5 (w_S 7 2 W) := by unfold w_trn; rw [if_pos e7, if_pos hR2]
      have eS : w_trnS W = 1 := if_pos (Or.inl e7)
      refine zz_gsn 8 rfl ?_
      refine zz_cv (n := 3) rfl rfl (t_Mill_move (i := 4) (j := 5) (W := w_S 7 2 W) (mk := mk) (SP.st (SP.mf hSP (by omega)) (j := 7) (by decide)) (by rw [sf_f _ _ (by omega), sf_f _ _ (by omega)]; exact hmk) (by decide) (by decide) (by decide) (fun z => by rw [← eT]; exact hp z) hpb (fun k hk => by have := hl k hk; show (W.R k).length < 90000; omega)) (Nat.le_of_ble_eq_true rfl) (Nat.le_of_ble_eq_true rfl) (Nat.le_of_ble_eq_true rfl) (fun r35 σ35 q35 => ?_)
      obtain ⟨rfl, p35, g35⟩ := q35
      have ew : zw (σ.1 407 m + 1) = σ.1 407 m + 1 := zw_id (by omega) (by omega)
      have gA : Mg s m W.n σ (zz_sf (zz_sf σ 407 m (zw (σ.1 407 m + 1))) 908 s 2) := (Mg.mi (Or.inr (Or.inr (Or.inr rfl)))).tr (Mc.g (Mc.st (by decide))) (Nat.le_refl _)
      have b1 : (zz_sf (zz_sf σ 407 m (zw (σ.1 407 m + 1))) 908 s 2).1 401 m = σ.1 401 m := by rw [sf_f _ _ (by omega), sf_f _ _ (by omega)]
      have b2 : (zz_sf (zz_sf σ 407 m (zw (σ.1 407 m + 1))) 908 s 2).1 402 m = σ.1 402 m := by rw [sf_f _ _ (by omega), sf_f _ _ (by omega)]
      have b3 : (zz_sf (zz_sf σ 407 m (zw (σ.1 407 m + 1))) 908 s 2).1 406 m = σ.1 406 m := by rw [sf_f _ _ (by omega), sf_f _ _ (by omega)]
      have b4 : (zz_sf (zz_sf σ 407 m (zw (σ.1 407 m + 1))) 908 s 2).1 407 m = σ.1 407 m + 1 := by rw [sf_f _ _ (by omega), sf_h, ew]
      refine zz_jp rfl ?_
      refine zz_rv rfl rfl ?_
      rw [eT, eS]
      exact ⟨rfl, p35, gA.tr (g35.g) (by show W.n ≤ W.n; omega), (g35.m (by omega)).trans b1, (g35.m (by omega)).trans b2, (g35.m (by omega)).trans b3, (g35.m (by omega)).trans b4⟩
    · have e7 : W.S 7 = 1 := e7'.symm.trans h3
      have hR2 : W.R 2 ≠ [] := fun z => by have := hz2.mpr z; have h13' : 0 < σ.1 701 (s + 3) := h13; omega
      have eT : w_trn mk W = w_move mk 4 5 (w_S 8 (W.S 8 + 1) (w_move mk 2 3 W)) := by unfold w_trn; rw [if_pos e7, if_neg hR2]
      have eS : w_trnS W = 1 := if_pos (Or.inl e7)
      refine zz_gsn 5 rfl ?_
      refine zz_cv (n := 3) rfl rfl (t_Mill_move (i := 2) (j := 3) (W := W) (mk := mk) (SP.mf hSP (by omega)) (by rw [sf_f _ _ (by omega)]; exact hmk) (by decide) (by decide) (by decide) (fun z => Nat.le_trans (by rw [eT]; exact w_move_le mk 4 5 (w_S 8 (W.S 8 + 1) (w_move mk 2 3 W))) (hp z)) hpb (fun k hk => by have := hl k hk; omega)) (Nat.le_of_ble_eq_true rfl) (Nat.le_of_ble_eq_true rfl) (Nat.le_of_ble_eq_true rfl) (fun r19 σ19 q19 => ?_)
      obtain ⟨rfl, p19, g19⟩ := q19
      have q8 : σ19.1 909 s = W.S 8 := by have := p19.2.1 8 (by decide) (by decide); rw [w_move_S] at this; exact this
      have ew2 : zw (σ19.1 909 s + 1) = W.S 8 + 1 := by rw [q8, zw_id (by omega) (by omega)]
      refine zz_gsn 6 rfl ?_
      refine zz_jp rfl ?_
      refine zz_gsn 5 rfl ?_
      refine zz_cv (n := 3) rfl rfl (t_Mill_move (i := 4) (j := 5) (W := w_S 8 (W.S 8 + 1) (w_move mk 2 3 W)) (mk := mk) (by rw [ew2]; exact SP.st p19 (j := 8) (by decide)) (by rw [sf_f _ _ (by omega), g19.m (by omega), sf_f _ _ (by omega)]; exact hmk) (by decide) (by decide) (by decide) (fun z => by rw [← eT]; exact hp z) hpb (fun k hk => w_move_len (by decide) (by have := hl k hk; show (W.R k).length + 1 < 90000; omega))) (Nat.le_of_ble_eq_true rfl) (Nat.le_of_ble_eq_true rfl) (Nat.le_of_ble_eq_true rfl) (fun r35 σ35 q35 => ?_)
      obtain ⟨rfl, p35, g35⟩ := q35
      have ew : zw (σ.1 407 m + 1) = σ.1 407 m + 1 := zw_id (by omega) (by omega)
      have gA : Mg s m W.n σ (zz_sf σ19 909 s (zw (σ19.1 909 s + 1))) := ((Mg.mi (Or.inr (Or.inr (Or.inr rfl)))).tr g19.g (Nat.le_refl _)).tr (Mc.g (Mc.st (by decide))) (Nat.le_refl _)
      have b1 : (zz_sf σ19 909 s (zw (σ19.1 909 s + 1))).1 401 m = σ.1 401 m := by rw [sf_f _ _ (by omega), g19.m (by omega), sf_f _ _ (by omega)]
      have b2 : (zz_sf σ19 909 s (zw (σ19.1 909 s + 1))).1 402 m = σ.1 402 m := by rw [sf_f _ _ (by omega), g19.m (by omega), sf_f _ _ (by omega)]
      have b3 : (zz_sf σ19 909 s (zw (σ19.1 909 s + 1))).1 406 m = σ.1 406 m := by rw [sf_f _ _ (by omega), g19.m (by omega), sf_f _ _ (by omega)]
      have b4 : (zz_sf σ19 909 s (zw (σ19.1 909 s + 1))).1 407 m = σ.1 407 m + 1 := by rw [sf_f _ _ (by omega), g19.m (by omega), sf_h, ew]
      refine zz_jp rfl ?_
      refine zz_rv rfl rfl ?_
      rw [eT, eS]
      exact ⟨rfl, p35, gA.tr (g35.g) (by show W.n ≤ (w_move mk 2 3 W).n; rw [w_move_n]; omega), (g35.m (by omega)).trans b1, (g35.m (by omega)).trans b2, (g35.m (by omega)).trans b3, (g35.m (by omega)).trans b4⟩
end
section
/-! the mill: LAW 1, whole -/
theorem w_S_R (j : Nat) (v : Int) (W : zz_W) : (w_S j v W).R = W.R := rfl
theorem w_trn_le (mk : Int) (W : zz_W) : W.n ≤ (w_trn mk W).n := by
  unfold w_trn
  split
  · split
    · exact w_move_le mk 4 5 (w_S 7 2 W)
    · exact Nat.le_trans (w_move_le mk 2 3 W) (w_move_le mk 4 5 (w_S 8 (W.S 8 + 1) (w_move mk 2 3 W)))
  · split
    · split
      · exact w_move_le mk 3 5 W
      · exact Nat.le_refl _
    · exact Nat.le_refl _
theorem w_trn_len {mk : Int} {k : Nat} {W : zz_W} {B : Nat} (h : (W.R k).length < B) : ((w_trn mk W).R k).length < B + 2 := by
  unfold w_trn
  split
  · split
    · exact w_move_len (W := w_S 7 2 W) (by decide) (by show (W.R k).length + 1 < _; omega)
    · have h1 : ((w_move mk 2 3 W).R k).length < B + 1 := w_move_len (by decide) (by omega)
      exact w_move_len (W := w_S 8 (W.S 8 + 1) (w_move mk 2 3 W)) (by decide) (by show ((w_move mk 2 3 W).R k).length + 1 < _; omega)
  · split
    · split
      · exact w_move_len (W := W) (by decide) (by omega)
      · show (W.R k).length < _
        omega
    · omega
theorem w_trn_S8 (mk : Int) (W : zz_W) : W.S 8 - 1 ≤ (w_trn mk W).S 8 ∧ (w_trn mk W).S 8 ≤ W.S 8 + 1 := by
  unfold w_trn
  split
  · split
    · rw [w_move_S]
      show W.S 8 - 1 ≤ W.S 8 ∧ W.S 8 ≤ W.S 8 + 1
      omega
    · rw [w_move_S]
      show W.S 8 - 1 ≤ W.S 8 + 1 ∧ W.S 8 + 1 ≤ W.S 8 + 1
      omega
  · split
    · split
      · show W.S 8 - 1 ≤ W.S 8 - 1 ∧ W.S 8 - 1 ≤ W.S 8 + 1
        omega
      · show W.S 8 - 1 ≤ W.S 8 ∧ W.S 8 ≤ W.S 8 + 1
        omega
    · omega
theorem w_trnS_b (W : zz_W) : 0 ≤ w_trnS W ∧ w_trnS W ≤ 1 := by
  unfold w_trnS
  split <;> omega
theorem w_b_len {k : Nat} {W : zz_W} {B : Nat} (hk : k < 6) (h : ∀ k, k < 6 → (W.R k).length < B) : ((w_b W).R k).length < B := by
  unfold w_b
  have h0 := h 0 (by decide)
  have h1 := h 1 (by decide)
  split
  · match k, hk with
    | 0, _ => exact h0
    | 1, _ => show 0 < B; omega
    | 2, _ => exact h0
    | 3, _ => show 0 < B; omega
    | 4, _ => exact h1
    | 5, _ => show 0 < B; omega
  · exact h k hk
theorem w_b_S8 (W : zz_W) : (w_b W).S 8 = 0 ∨ (w_b W).S 8 = W.S 8 := by
  unfold w_b
  split
  · exact Or.inl rfl
  · exact Or.inr rfl
theorem w_b_n (W : zz_W) : (w_b W).n = W.n := by
  unfold w_b
  split <;> rfl
theorem w_fin_n (W : zz_W) : (w_fin W).n = W.n := by
  unfold w_fin
  split <;> rfl
theorem t_Mill_disown {X : zz_X} {σ : zz_M} {p q m s : Nat} {W : zz_W} (hSP : SP σ p m s W) (hl : (W.R 5).length < 80000) (hS6 : -1000000 < W.S 6 ∧ W.S 6 < 1000000) (hS8 : -1000000 < W.S 8 ∧ W.S 8 < 1000000) : zz_T X 2 p_Mill_disown [zP 4 p q m, zP 9 0 0 s] σ (fun r σ' => r = none ∧ SP σ' p m s (w_dis W) ∧ Mc s m W.n σ σ') := by
  refine zz_mk k_Mill_disown o_Mill_disown rfl rfl (Nat.le_of_ble_eq_true rfl) ?_
  show zz_G X 2 p_Mill_disown 0 [zP 4 p q m, zP 9 0 0 s] [] σ _
  have e7 : σ.1 908 s = W.S 7 := hSP.2.1 7 (by decide) (by decide)
  have e8 : σ.1 909 s = W.S 8 := hSP.2.1 8 (by decide) (by decide)
  have e6 : σ.1 907 s = W.S 6 := hSP.2.1 6 (by decide) (by decide)
  have ew : zw (σ.1 907 s - 1) = W.S 6 - 1 := by rw [e6, zw_id (by omega) (by omega)]
  have ew8 : zw (σ.1 909 s - 1) = W.S 8 - 1 := by rw [e8, zw_id (by omega) (by omega)]
  have p0 : SP (zz_sf σ 907 s (zw (σ.1 907 s - 1))) p m s (w_S 6 (W.S 6 - 1) W) := by rw [ew]; exact hSP.st (j := 6) (by decide)
  have g0 : Mc s m W.n σ (zz_sf σ 907 s (zw (σ.1 907 s - 1))) := Mc.st (by decide)
  refine zz_gsn 9 rfl ?_
  refine zz_br rfl (fun h9 => ?_) (fun h9 => ?_)
  · refine zz_gsn 3 rfl ?_
    refine zz_br rfl (fun h25 => ?_) (fun h25 => ?_)
    · refine zz_gsn 6 rfl ?_
      refine zz_rv rfl rfl ?_
      have n1 : ¬ (W.S 7 = 2 ∧ W.S 8 = 0) := fun z => by exact h9 (e7.trans z.1)
      have n2 : W.S 7 = 1 ∨ W.S 7 = 2 := Or.inl (e7.symm.trans h25)
      have eD : w_dis W = w_S 8 (W.S 8 - 1) (w_S 6 (W.S 6 - 1) W) := by unfold w_dis; rw [if_neg n1, if_pos n2]
      rw [eD]
      have p1 : SP (zz_sf (zz_sf σ 907 s (zw (σ.1 907 s - 1))) 909 s (zw (σ.1 909 s - 1))) p m s (w_S 8 (W.S 8 - 1) (w_S 6 (W.S 6 - 1) W)) := by rw [ew8]; exact p0.st (j := 8) (by decide)
      exact ⟨rfl, p1, g0.tr (Mc.st (by decide)) (Nat.le_refl _)⟩
    · refine zz_gsn 3 rfl ?_
      refine zz_br rfl (fun h29 => ?_) (fun h29 => ?_)
      · refine zz_rv rfl rfl ?_
        have n1 : ¬ (W.S 7 = 2 ∧ W.S 8 = 0) := fun z => h29 (e7.trans z.1)
        have n2 : ¬ (W.S 7 = 1 ∨ W.S 7 = 2) := fun z => z.elim (fun z => h25 (e7.trans z)) (fun z => h29 (e7.trans z))
        have eD : w_dis W = w_S 6 (W.S 6 - 1) W := by unfold w_dis; rw [if_neg n1, if_neg n2]
        rw [eD]
        exact ⟨rfl, p0, g0⟩
      · refine zz_gsn 6 rfl ?_
        refine zz_rv rfl rfl ?_
        have n1 : ¬ (W.S 7 = 2 ∧ W.S 8 = 0) := fun z => by exact h9 (e7.trans z.1)
        have n2 : W.S 7 = 1 ∨ W.S 7 = 2 := Or.inr (e7.symm.trans h29)
        have eD : w_dis W = w_S 8 (W.S 8 - 1) (w_S 6 (W.S 6 - 1) W) := by unfold w_dis; rw [if_neg n1, if_pos n2]
        rw [eD]
        have p1 : SP (zz_sf (zz_sf σ 907 s (zw (σ.1 907 s - 1))) 909 s (zw (σ.1 909 s - 1))) p m s (w_S 8 (W.S 8 - 1) (w_S 6 (W.S 6 - 1) W)) := by rw [ew8]; exact p0.st (j := 8) (by decide)
        exact ⟨rfl, p1, g0.tr (Mc.st (by decide)) (Nat.le_refl _)⟩
  · refine zz_gsn 2 rfl ?_
    refine zz_br rfl (fun h12 => ?_) (fun h12 => ?_)
    · refine zz_gsn 3 rfl ?_
      refine zz_br rfl (fun h25 => ?_) (fun h25 => ?_)
      · refine zz_gsn 6 rfl ?_
        refine zz_rv rfl rfl ?_
        have n1 : ¬ (W.S 7 = 2 ∧ W.S 8 = 0) := fun z => by exact h12 (e8.trans z.2)
        have n2 : W.S 7 = 1 ∨ W.S 7 = 2 := Or.inl (e7.symm.trans h25)
        have eD : w_dis W = w_S 8 (W.S 8 - 1) (w_S 6 (W.S 6 - 1) W) := by unfold w_dis; rw [if_neg n1, if_pos n2]
        rw [eD]
        have p1 : SP (zz_sf (zz_sf σ 907 s (zw (σ.1 907 s - 1))) 909 s (zw (σ.1 909 s - 1))) p m s (w_S 8 (W.S 8 - 1) (w_S 6 (W.S 6 - 1) W)) := by rw [ew8]; exact p0.st (j := 8) (by decide)
        exact ⟨rfl, p1, g0.tr (Mc.st (by decide)) (Nat.le_refl _)⟩
      · refine zz_gsn 3 rfl ?_
        refine zz_br rfl (fun h29 => ?_) (fun h29 => ?_)
        · refine zz_rv rfl rfl ?_
          have n1 : ¬ (W.S 7 = 2 ∧ W.S 8 = 0) := fun z => h29 (e7.trans z.1)
          have n2 : ¬ (W.S 7 = 1 ∨ W.S 7 = 2) := fun z => z.elim (fun z => h25 (e7.trans z)) (fun z => h29 (e7.trans z))
          have eD : w_dis W = w_S 6 (W.S 6 - 1) W := by unfold w_dis; rw [if_neg n1, if_neg n2]
          rw [eD]
          exact ⟨rfl, p0, g0⟩
        · refine zz_gsn 6 rfl ?_
          refine zz_rv rfl rfl ?_
          have n1 : ¬ (W.S 7 = 2 ∧ W.S 8 = 0) := fun z => by exact h12 (e8.trans z.2)
          have n2 : W.S 7 = 1 ∨ W.S 7 = 2 := Or.inr (e7.symm.trans h29)
          have eD : w_dis W = w_S 8 (W.S 8 - 1) (w_S 6 (W.S 6 - 1) W) := by unfold w_dis; rw [if_neg n1, if_pos n2]
          rw [eD]
          have p1 : SP (zz_sf (zz_sf σ 907 s (zw (σ.1 907 s - 1))) 909 s (zw (σ.1 909 s - 1))) p m s (w_S 8 (W.S 8 - 1) (w_S 6 (W.S 6 - 1) W)) := by rw [ew8]; exact p0.st (j := 8) (by decide)
          exact ⟨rfl, p1, g0.tr (Mc.st (by decide)) (Nat.le_refl _)⟩
    · refine zz_gsn 4 rfl ?_
      refine zz_cv (n := 2) rfl rfl (t_Cells_dropFirst) (Nat.le_of_ble_eq_true rfl) (Nat.le_of_ble_eq_true rfl) (Nat.le_of_ble_eq_true rfl) (fun r17 σ17 q17 => ?_)
      obtain ⟨rfl, q17⟩ := q17
      obtain ⟨p17, g17⟩ := sp_drop p0 (k := 5) (by decide) (by show (W.R 5).length < 100000; omega) q17
      refine zz_gsn 3 rfl ?_
      refine zz_jp rfl ?_
      refine zz_rv rfl rfl ?_
      have eD : w_dis W = w_S 7 3 (w_pop 5 (w_S 6 (W.S 6 - 1) W)) := if_pos ⟨e7.symm.trans h9, e8.symm.trans h12⟩
      rw [eD]
      exact ⟨rfl, p17.st (j := 7) (by decide), (g0.tr g17 (Nat.le_refl _)).tr (Mc.st (by decide)) (Nat.le_refl _)⟩
theorem t_Mill_turnBySteps {X : zz_X} {σ : zz_M} {p q m s : Nat} {W : zz_W} {mk : Int} (hSP : SP σ p m s W) (hmk : σ.1 406 m = mk) (h401 : σ.1 401 m = 0) (h402 : σ.1 402 m = 0) (h407 : 0 ≤ σ.1 407 m ∧ σ.1 407 m < 900000) (hp : 0 < p → (w_one mk W).n ≤ p) (hpb : p < 100000) (hl : ∀ k, k < 6 → (W.R k).length < 40000) (hS6 : -900000 < W.S 6 ∧ W.S 6 < 900000) (hS8 : -900000 < W.S 8 ∧ W.S 8 < 900000) : zz_T X 5 p_Mill_turnBySteps [zP 4 p q m, zP 9 0 0 s] σ (fun r σ' => r = none ∧ SP σ' p m s (w_one mk W) ∧ Mg s m W.n σ σ' ∧ σ'.1 401 m = w_oneB W ∧ σ'.1 402 m = w_oneO W ∧ σ'.1 406 m = mk ∧ σ'.1 407 m = σ.1 407 m + w_oneS mk W) := by
  refine zz_mk k_Mill_turnBySteps o_Mill_turnBySteps rfl rfl (Nat.le_of_ble_eq_true rfl) ?_
  show zz_G X 5 p_Mill_turnBySteps 0 [zP 4 p q m, zP 9 0 0 s] [] σ _
  have e1 : σ.1 701 (s + 2) = w_len 1 W := (hSP.1 1 (by decide)).1
  have e6 : σ.1 907 s = W.S 6 := hSP.2.1 6 (by decide) (by decide)
  have hn : 0 < p → (w_trn mk (w_trn mk (w_b W))).n ≤ p := fun z => by have := hp z; unfold w_one at this; rw [w_fin_n] at this; exact this
  have hb8 : -1000000 < (w_b W).S 8 ∧ (w_b W).S 8 < 1000000 := by rcases w_b_S8 W with z | z <;> rw [z] <;> omega
  have hb8' : -950000 < (w_b W).S 8 ∧ (w_b W).S 8 < 950000 := by rcases w_b_S8 W with z | z <;> rw [z] <;> omega
  refine zz_gsn 5 rfl ?_
  refine zz_br rfl (fun h5 => ?_) (fun h5 => ?_)
  · have hb : ¬ W.S 6 < w_len 1 W := by rw [← e1, ← e6]; exact Int.not_lt.mpr h5
    have eB : w_b W = W := if_neg hb
    have p8 : SP σ p m s (w_b W) := by rw [eB]; exact hSP
    have g8 : Mg s m W.n σ σ := Mg.rf
    have x1 : σ.1 401 m = w_oneB W := h401.trans (if_neg hb).symm
    have x2 : σ.1 402 m = w_oneO W := h402.trans (if_neg (fun z => hb z.1)).symm
    have x3 : σ.1 406 m = mk := hmk
    have x4 : σ.1 407 m = σ.1 407 m := rfl
    refine zz_gsn 2 rfl ?_
    refine zz_cv (n := 2) rfl rfl (t_Mill_turnOnce (W := w_b W) (mk := mk) p8 x3 (fun z => Nat.le_trans (w_trn_le mk (w_trn mk (w_b W))) (hn z)) hpb (fun k hk => by have := w_b_len hk hl; omega) hb8 (by rw [x4]; omega)) (Nat.le_of_ble_eq_true rfl) (Nat.le_of_ble_eq_true rfl) (Nat.le_of_ble_eq_true rfl) (fun r11 σ11 q11 => ?_)
    obtain ⟨rfl, p11, g11, y1, y2, y3, y4⟩ := q11
    have hs1 := w_trnS_b (w_b W)
    refine zz_gsn 2 rfl ?_
    refine zz_cv (n := 2) rfl rfl (t_Mill_turnOnce (W := w_trn mk (w_b W)) (mk := mk) p11 (y3.trans x3) hn hpb (fun k hk => by have := w_trn_len (mk := mk) (w_b_len hk hl); omega) (by have := w_trn_S8 mk (w_b W); omega) (by rw [y4, x4]; omega)) (Nat.le_of_ble_eq_true rfl) (Nat.le_of_ble_eq_true rfl) (Nat.le_of_ble_eq_true rfl) (fun r14 σ14 q14 => ?_)
    obtain ⟨rfl, p14, g14, z1, z2, z3, z4⟩ := q14
    have f7 : σ14.1 908 s = (w_trn mk (w_trn mk (w_b W))).S 7 := p14.2.1 7 (by decide) (by decide)
    have gg : Mg s m W.n σ σ14 := (g8.tr g11 (by rw [w_b_n]; exact Nat.le_refl _)).tr g14 (Nat.le_trans (by rw [w_b_n]; exact Nat.le_refl _) (w_trn_le mk (w_b W)))
    refine zz_gsn 3 rfl ?_
    refine zz_br rfl (fun h18 => ?_) (fun h18 => ?_)
    · refine zz_rv rfl rfl ?_
      have eF : w_one mk W = w_trn mk (w_trn mk (w_b W)) := if_neg (fun z => h18 (f7.trans z))
      rw [eF]
      exact ⟨rfl, p14, gg, z1.trans (y1.trans x1), z2.trans (y2.trans x2), z3.trans (y3.trans x3), by rw [z4, y4, x4]; unfold w_oneS; omega⟩
    · refine zz_gsn 4 rfl ?_
      refine zz_cv (n := 2) rfl rfl (t_Row_become) (Nat.le_of_ble_eq_true rfl) (Nat.le_of_ble_eq_true rfl) (Nat.le_of_ble_eq_true rfl) (fun r23 σ23 q23 => ?_)
      obtain ⟨rfl, q23⟩ := q23
      have p23 : SP σ23 p m s (w_R 0 ((w_trn mk (w_trn mk (w_b W))).R 5) (w_trn mk (w_trn mk (w_b W)))) := by rw [q23]; exact p14.cpy (i := 0) (j := 5) (by decide) (by decide)
      have g23 : Mc s m (w_trn mk (w_trn mk (w_b W))).n σ14 σ23 := by rw [q23]; exact Mc.row (k := 0) (by decide)
      clear q23
      refine zz_gsn 1 rfl ?_
      refine zz_cv (n := 1) rfl rfl (t_State_clearTurn (p := p) (m := m) p23) (Nat.le_of_ble_eq_true rfl) (Nat.le_of_ble_eq_true rfl) (Nat.le_of_ble_eq_true rfl) (fun r25 σ25 q25 => ?_)
      obtain ⟨rfl, p25, g25⟩ := q25
      refine zz_rv rfl rfl ?_
      have eF : w_one mk W = w_clr (w_R 0 ((w_trn mk (w_trn mk (w_b W))).R 5) (w_trn mk (w_trn mk (w_b W)))) := if_pos (f7.symm.trans h18)
      rw [eF]
      have g25' := (g23.tr g25 (Nat.le_refl _))
      exact ⟨rfl, p25, gg.tr g25'.g (Nat.le_trans (by rw [w_b_n]; exact Nat.le_refl _) (Nat.le_trans (w_trn_le mk (w_b W)) (w_trn_le mk (w_trn mk (w_b W))))), (g25'.m (by omega)).trans (z1.trans (y1.trans x1)), (g25'.m (by omega)).trans (z2.trans (y2.trans x2)), (g25'.m (by omega)).trans (z3.trans (y3.trans x3)), by rw [g25'.m (by omega), z4, y4, x4]; unfold w_oneS; omega⟩
  · refine zz_gsn 2 rfl ?_
    refine zz_cv (n := 2) rfl rfl (t_Mill_beginTurning (W := W) hSP (by have := hl 1 (by decide); omega) (by omega)) (Nat.le_of_ble_eq_true rfl) (Nat.le_of_ble_eq_true rfl) (Nat.le_of_ble_eq_true rfl) (fun r8 σ8 q8 => ?_)
    obtain ⟨rfl, p8, g8, b18, b28, b38, b48⟩ := q8
    have hb : W.S 6 < w_len 1 W := by rw [← e1, ← e6]; exact h5
    have eB : w_b W = w_beg W := if_pos hb
    rw [← eB] at p8
    have x1 : σ8.1 401 m = w_oneB W := b18.trans (if_pos hb).symm
    have x2 : σ8.1 402 m = w_oneO W := by
      rw [b28]
      unfold w_oneO
      by_cases z : W.S 7 ≠ 0
      · rw [if_pos z, if_pos ⟨hb, z⟩]
      · rw [if_neg z, if_neg (fun y => z y.2)]
    have x3 : σ8.1 406 m = mk := b38.trans hmk
    have x4 : σ8.1 407 m = σ.1 407 m := b48
    
    refine zz_gsn 2 rfl ?_
    refine zz_cv (n := 2) rfl rfl (t_Mill_turnOnce (W := w_b W) (mk := mk) p8 x3 (fun z => Nat.le_trans (w_trn_le mk (w_trn mk (w_b W))) (hn z)) hpb (fun k hk => by have := w_b_len hk hl; omega) hb8 (by rw [x4]; omega)) (Nat.le_of_ble_eq_true rfl) (Nat.le_of_ble_eq_true rfl) (Nat.le_of_ble_eq_true rfl) (fun r11 σ11 q11 => ?_)
    obtain ⟨rfl, p11, g11, y1, y2, y3, y4⟩ := q11
    have hs1 := w_trnS_b (w_b W)
    refine zz_gsn 2 rfl ?_
    refine zz_cv (n := 2) rfl rfl (t_Mill_turnOnce (W := w_trn mk (w_b W)) (mk := mk) p11 (y3.trans x3) hn hpb (fun k hk => by have := w_trn_len (mk := mk) (w_b_len hk hl); omega) (by have := w_trn_S8 mk (w_b W); omega) (by rw [y4, x4]; omega)) (Nat.le_of_ble_eq_true rfl) (Nat.le_of_ble_eq_true rfl) (Nat.le_of_ble_eq_true rfl) (fun r14 σ14 q14 => ?_)
    obtain ⟨rfl, p14, g14, z1, z2, z3, z4⟩ := q14
    have f7 : σ14.1 908 s = (w_trn mk (w_trn mk (w_b W))).S 7 := p14.2.1 7 (by decide) (by decide)
    have gg : Mg s m W.n σ σ14 := (g8.tr g11 (by rw [w_b_n]; exact Nat.le_refl _)).tr g14 (Nat.le_trans (by rw [w_b_n]; exact Nat.le_refl _) (w_trn_le mk (w_b W)))
    refine zz_gsn 3 rfl ?_
    refine zz_br rfl (fun h18 => ?_) (fun h18 => ?_)
    · refine zz_rv rfl rfl ?_
      have eF : w_one mk W = w_trn mk (w_trn mk (w_b W)) := if_neg (fun z => h18 (f7.trans z))
      rw [eF]
      exact ⟨rfl, p14, gg, z1.trans (y1.trans x1), z2.trans (y2.trans x2), z3.trans (y3.trans x3), by rw [z4, y4, x4]; unfold w_oneS; omega⟩
    · refine zz_gsn 4 rfl ?_
      refine zz_cv (n := 2) rfl rfl (t_Row_become) (Nat.le_of_ble_eq_true rfl) (Nat.le_of_ble_eq_true rfl) (Nat.le_of_ble_eq_true rfl) (fun r23 σ23 q23 => ?_)
      obtain ⟨rfl, q23⟩ := q23
      have p23 : SP σ23 p m s (w_R 0 ((w_trn mk (w_trn mk (w_b W))).R 5) (w_trn mk (w_trn mk (w_b W)))) := by rw [q23]; exact p14.cpy (i := 0) (j := 5) (by decide) (by decide)
      have g23 : Mc s m (w_trn mk (w_trn mk (w_b W))).n σ14 σ23 := by rw [q23]; exact Mc.row (k := 0) (by decide)
      clear q23
      refine zz_gsn 1 rfl ?_
      refine zz_cv (n := 1) rfl rfl (t_State_clearTurn (p := p) (m := m) p23) (Nat.le_of_ble_eq_true rfl) (Nat.le_of_ble_eq_true rfl) (Nat.le_of_ble_eq_true rfl) (fun r25 σ25 q25 => ?_)
      obtain ⟨rfl, p25, g25⟩ := q25
      refine zz_rv rfl rfl ?_
      have eF : w_one mk W = w_clr (w_R 0 ((w_trn mk (w_trn mk (w_b W))).R 5) (w_trn mk (w_trn mk (w_b W)))) := if_pos (f7.symm.trans h18)
      rw [eF]
      have g25' := (g23.tr g25 (Nat.le_refl _))
      exact ⟨rfl, p25, gg.tr g25'.g (Nat.le_trans (by rw [w_b_n]; exact Nat.le_refl _) (Nat.le_trans (w_trn_le mk (w_b W)) (w_trn_le mk (w_trn mk (w_b W))))), (g25'.m (by omega)).trans (z1.trans (y1.trans x1)), (g25'.m (by omega)).trans (z2.trans (y2.trans x2)), (g25'.m (by omega)).trans (z3.trans (y3.trans x3)), by rw [g25'.m (by omega), z4, y4, x4]; unfold w_oneS; omega⟩
end
section
/-! the mill: laying -/
theorem t_Mill_laidAt {X : zz_X} {σ : zz_M} {p q m : Nat} {v : Int}  : zz_T X 1 p_Mill_laidAt [zP 4 p q m, zI v] σ (fun r σ' => σ = σ' ∧ ∃ n : Int, r = some (zI n) ∧ ((0 ≤ v ∧ v < q ∧ n = σ.2 (m + 6) v.toNat) ∨ (¬ (0 ≤ v ∧ v < q) ∧ n = -1))) := by
  refine zz_mk k_Mill_laidAt o_Mill_laidAt rfl rfl (Nat.le_of_ble_eq_true rfl) ?_
  show zz_G X 1 p_Mill_laidAt 0 [zP 4 p q m, zI v] [] σ _
  refine zz_gsn 1 rfl ?_
  refine zz_br rfl (fun h1 => ?_) (fun h1 => ?_)
  · refine zz_gsn 1 rfl ?_
    refine zz_ri rfl (Or.inl rfl) ?_
    exact ⟨rfl, _, rfl, by omega⟩
  · refine zz_gsn 4 rfl ?_
    refine zz_br rfl (fun h6 => ?_) (fun h6 => ?_)
    · refine zz_gsn 1 rfl ?_
      refine zz_ri rfl (Or.inl rfl) ?_
      exact ⟨rfl, _, rfl, by omega⟩
    · refine zz_gsn 3 rfl ?_
      refine zz_ald rfl (by omega) ?_
      refine zz_jp rfl ?_
      refine zz_ri rfl (Or.inl rfl) ?_
      exact ⟨rfl, _, rfl, by omega⟩
theorem zz_ch_drop {nx : Nat → Int} : ∀ {l : List Nat} {h : Int} {c : Nat} {t : List Nat}, zz_ch nx h l → l = c :: t → h = (c : Nat) ∧ zz_ch nx (nx c) t
  | _, _, _, _, h, rfl => h
/-- the laid numbers: at which places, by the pace -/
def w_at (l : List Int) (place : Int) (pace : Int) (h : Nat) : Option Int := if 0 ≤ ((h : Int) - place) * pace then l[(((h : Int) - place) * pace).toNat]? else none
theorem zz_snoc (l : List Int) (x : Int) (k : Nat) : (l ++ [x])[k]? = if k = l.length then some x else l[k]? := by
  by_cases h : k < l.length
  · have e := List.getElem?_append_left (l₂ := [x]) h
    rw [e, if_neg (Nat.ne_of_lt h)]
  · by_cases h2 : k = l.length
    · subst h2
      rw [if_pos rfl]
      simp
    · have h3 : (l ++ [x]).length ≤ k := by
        rw [List.length_append]
        show l.length + 1 ≤ k
        omega
      have h4 : l.length ≤ k := by omega
      rw [if_neg h2, List.getElem?_eq_none h3, List.getElem?_eq_none h4]
theorem w_at_app (l : List Int) (x : Int) {place pace : Int} (hp : pace = 1 ∨ pace = -1) (h : Nat) : w_at (l ++ [x]) place pace h = if (h : Int) = place + (l.length : Int) * pace then some x else w_at l place pace h := by
  unfold w_at
  rw [zz_snoc]
  rcases hp with rfl | rfl
  · rw [Int.mul_one, Int.mul_one]
    by_cases z : 0 ≤ (h : Int) - place
    · rw [if_pos z, if_pos z]
      by_cases z2 : ((h : Int) - place).toNat = l.length
      · have z3 : (h : Int) = place + (l.length : Int) := by omega
        rw [if_pos z2, if_pos z3]
      · have z3 : ¬ (h : Int) = place + (l.length : Int) := by omega
        rw [if_neg z2, if_neg z3]
    · have z3 : ¬ (h : Int) = place + (l.length : Int) := by omega
      rw [if_neg z, if_neg z, if_neg z3]
  · have e1 : ((h : Int) - place) * (-1) = place - h := by omega
    have e2 : (l.length : Int) * (-1) = -(l.length : Int) := by omega
    rw [e1, e2]
    by_cases z : 0 ≤ place - (h : Int)
    · rw [if_pos z, if_pos z]
      by_cases z2 : (place - (h : Int)).toNat = l.length
      · have z3 : (h : Int) = place + -(l.length : Int) := by omega
        rw [if_pos z2, if_pos z3]
      · have z3 : ¬ (h : Int) = place + -(l.length : Int) := by omega
        rw [if_neg z2, if_neg z3]
    · have z3 : ¬ (h : Int) = place + -(l.length : Int) := by omega
      rw [if_neg z, if_neg z, if_neg z3]
def Lay (m : Nat) (l : List Int) (place pace : Int) (p q : Nat) (σ σ' : zz_M) : Prop := σ'.1 = σ.1 ∧ (∀ a, a ≠ m + 6 → σ'.2 a = σ.2 a) ∧ (0 < p → ∀ h : Nat, h < q → (∀ x, w_at l place pace h = some x → σ'.2 (m + 6) h = x) ∧ (w_at l place pace h = none → σ'.2 (m + 6) h = σ.2 (m + 6) h))
theorem lp_lay {X : zz_X} {p q m r : Nat} {ln cnt : Nat} {place pace : Int} {σ : zz_M} {num : Nat → Int} {n : Nat} {Post : Option zz_V → zz_M → Prop} (hpace : pace = 1 ∨ pace = -1) (hplace : -100000 < place ∧ place < 100000) (hln : ln < 100000) (hlen : σ.1 701 r = (ln : Nat)) (hq : q < 100000)
    (hpool : 0 < p → n ≤ p ∧ ∀ i, i < n → σ.2 (m + 2) i = num i) (L0 : List Nat) (hL0 : L0.length = ln) (hids : ∀ c ∈ L0, c < n)
    (k : ∀ σ', Lay m (L0.map num) place pace p q σ σ' → Post none σ') :
    ∀ (t : List Nat) (i : Nat) (σ1 : zz_M) (h x : Int) , L0.drop i = t → i + t.length = ln → (0 < p → zz_ch (σ.2 (m + 3)) h t) → Lay m ((L0.take i).map num) place pace p q σ σ1 → ∀ u, zz_G X 2 p_Mill_lay 5 [zP 4 p q m, zP 7 0 0 r, zI place, zI pace, zI h, zI (i : Nat), u] [] σ1 Post := by
  intro t
  induction t with
  | nil =>
    intro i σ1 h x hd hi hch hM u
    obtain ⟨m1, m2, m3⟩ := hM
    refine zz_gsn 3 rfl ?_
    have e : σ1.1 701 r = (ln : Nat) := by rw [m1]; exact hlen
    have hil : i = ln := by simpa using hi
    refine zz_br rfl (fun h8 => ?_) (fun h8 => absurd h8 (by omega))
    refine zz_rv rfl rfl (k σ1 ⟨m1, m2, ?_⟩)
    have e2 : L0.take i = L0 := List.take_of_length_le (by omega)
    rw [e2] at m3
    exact m3
  | cons c t ih =>
    intro i σ1 h x hd hi hch hM u
    obtain ⟨m1, m2, m3⟩ := hM
    have hil : i < ln := by simp only [List.length_cons] at hi; omega
    have hget : L0[i]? = some c := by
      have : (L0.drop i)[0]? = some c := by rw [hd]; rfl
      rw [List.getElem?_drop] at this
      exact this
    have hcn : c < n := hids c (List.mem_of_getElem? hget)
    have htk : L0.take (i + 1) = L0.take i ++ [c] := by rw [List.take_add_one, hget]; rfl
    have hd' : L0.drop (i + 1) = t := by rw [← List.drop_drop, hd]; rfl
    refine zz_gsn 3 rfl ?_
    have e : σ1.1 701 r = (ln : Nat) := by rw [m1]; exact hlen
    refine zz_br rfl (fun h8 => absurd h8 (by omega)) (fun h8 => ?_)
    have ea : zw (place + zw ((i : Int) * pace)) = place + (i : Int) * pace := by
      rcases hpace with rfl | rfl
      · rw [Int.mul_one, zw_id (x := (i : Int)) (by omega) (by omega), zw_id (by omega) (by omega)]
      · rw [show (i : Int) * (-1) = -(i : Int) by omega, zw_id (x := -(i : Int)) (by omega) (by omega), zw_id (by omega) (by omega)]
    have ei : zw ((i : Int) + 1) = ((i + 1 : Nat) : Int) := by rw [zw_id (by omega) (by omega)]; omega
    -- what is read behind
    have fin : ∀ (σ2 : zz_M) (u : zz_V), Lay m ((L0.take (i + 1)).map num) place pace p q σ σ2 → zz_G X 2 p_Mill_lay 30 [zP 4 p q m, zP 7 0 0 r, zI place, zI pace, zI h, zI (i : Nat), u] [] σ2 Post := by
      intro σ2 u hM2
      refine zz_gsn 3 rfl ?_
      refine zz_cv (n := 2) rfl rfl (t_Cells_behind) (Nat.le_of_ble_eq_true rfl) (Nat.le_of_ble_eq_true rfl) (Nat.le_of_ble_eq_true rfl) (fun r33 σ33 q33 => ?_)
      obtain ⟨rfl, n33, rfl, e33⟩ := q33
      refine zz_gsn 2 rfl ?_
      refine zz_jp rfl ?_
      have he : (0 < p → zz_ch (σ.2 (m + 3)) n33 t) := fun hp => by
        obtain ⟨y1, y2⟩ := hch hp
        rcases e33 with ⟨-, -, e33⟩ | ⟨e33, -⟩
        · rw [e33, y1, Int.toNat_natCast, hM2.2.1 (m + 1 + 2) (by omega)]
          exact y2
        · exact absurd ⟨by omega, by have := (hpool hp).1; omega⟩ e33
      rw [ei]
      exact ih (i + 1) σ2 n33 x hd' (by simp only [List.length_cons] at hi; omega) he hM2 _
    -- the numbers laid so far, one more
    have hl : ((L0.take i).map num).length = i := by
      rw [List.length_map, List.length_take, hL0]
      exact Nat.min_eq_left (Nat.le_of_lt hil)
    have wat : ∀ h : Nat, w_at ((L0.take (i + 1)).map num) place pace h = if (h : Int) = place + (i : Int) * pace then some (num c) else w_at ((L0.take i).map num) place pace h := by
      intro h
      have z := w_at_app ((L0.take i).map num) (num c) hpace (place := place) h
      rw [hl] at z
      rw [htk, List.map_append, List.map_cons, List.map_nil]
      exact z
    have out : ¬ (0 ≤ place + (i : Int) * pace ∧ place + (i : Int) * pace < q) → Lay m ((L0.take (i + 1)).map num) place pace p q σ σ1 := by
      intro hno
      refine ⟨m1, m2, fun hp h hh => ?_⟩
      rw [wat h, if_neg (fun z => hno (by omega))]
      exact m3 hp h hh
    refine zz_gsn 7 rfl ?_
    refine zz_br rfl (fun h16 => ?_) (fun h16 => ?_)
    · exact fin _ _ (out (by rw [ea] at h16; omega))
    · refine zz_gsn 4 rfl ?_
      refine zz_br rfl (fun h21 => ?_) (fun h21 => ?_)
      · exact fin _ _ (out (by rw [ea] at h21; omega))
      · refine zz_gsn 6 rfl ?_
        refine zz_cv (n := 2) rfl rfl (t_Cells_numberOf) (Nat.le_of_ble_eq_true rfl) (Nat.le_of_ble_eq_true rfl) (Nat.le_of_ble_eq_true rfl) (fun r28 σ28 q28 => ?_)
        obtain ⟨rfl, n28, rfl, e28⟩ := q28
        refine zz_ast rfl (by omega) ?_
        refine fin _ _ ⟨m1, fun a ha => ?_, fun hp h' hh => ?_⟩
        · funext z
          rw [sa_a _ _ ha, m2 a ha]
        · have en : n28 = num c := by
            obtain ⟨y1, y2⟩ := hch hp
            rcases e28 with ⟨-, -, e28⟩ | ⟨e28, -⟩
            · rw [e28, y1, Int.toNat_natCast, m2 (m + 1 + 1) (by omega)]
              exact (hpool hp).2 c hcn
            · exact absurd ⟨by omega, by have := (hpool hp).1; omega⟩ e28
          rw [wat h']
          rw [ea]
          by_cases z : (h' : Int) = place + (i : Int) * pace
          · rw [if_pos z]
            have ez : (place + (i : Int) * pace).toNat = h' := by omega
            rw [ez, sa_h]
            exact ⟨fun x hx => by cases hx; exact en, fun hx => by cases hx⟩
          · rw [if_neg z, sa_i _ _ (by rw [ea] at h16 h21; omega)]
            exact m3 hp h' hh
theorem t_Mill_lay {X : zz_X} {σ : zz_M} {p q m s j : Nat} {W : zz_W} {place pace : Int} (hSP : SP σ p m s W) (hj : j < 6) (hpace : pace = 1 ∨ pace = -1) (hplace : -100000 < place ∧ place < 100000) (hl : (W.R j).length < 100000) (hq : q < 100000) : zz_T X 2 p_Mill_lay [zP 4 p q m, zP 7 0 0 (s + 1 + j), zI place, zI pace] σ (fun r σ' => r = none ∧ Lay m ((W.R j).map W.num) place pace p q σ σ') := by
  refine zz_mk k_Mill_lay o_Mill_lay rfl rfl (Nat.le_of_ble_eq_true rfl) ?_
  show zz_G X 2 p_Mill_lay 0 [zP 4 p q m, zP 7 0 0 (s + 1 + j), zI place, zI pace, zU, zU, zU] [] σ _
  refine zz_gsn 5 rfl ?_
  exact lp_lay (r := s + 1 + j) (ln := (W.R j).length) (num := W.num) (n := W.n) (cnt := 0) hpace hplace hl (hSP.1 j hj).1 hq (fun hp => ⟨(hSP.2.2.2.1 hp).2.1, fun i hi => ((hSP.2.2.2.1 hp).2.2 i hi).1⟩) (W.R j) rfl (hSP.2.2.2.2 j hj) (fun σ' h => ⟨rfl, h⟩) (W.R j) 0 σ (σ.1 700 (s + 1 + j)) 0 rfl (by omega) (fun hp => (hSP.1 j hj).2 hp) ⟨rfl, fun _ _ => rfl, fun _ h _ => ⟨fun x hx => by unfold w_at at hx; split at hx <;> simp at hx, fun _ => rfl⟩⟩ zU
end
section
/-! the mill: splitting, its loops -/
theorem w_pus_R {mk : Int} {k : Nat} : ∀ (xs : List Int) (W : zz_W), ((w_pus mk k xs W).R k).length = xs.length + (W.R k).length ∧ (∀ j, j ≠ k → (w_pus mk k xs W).R j = W.R j) ∧ (w_pus mk k xs W).n = W.n + xs.length ∧ (w_pus mk k xs W).S = W.S
  | [], W => ⟨by simp [w_pus], fun _ _ => rfl, rfl, rfl⟩
  | x :: xs, W => by
    obtain ⟨h1, h2, h3, h4⟩ := w_pus_R (mk := mk) (k := k) xs W
    refine ⟨?_, fun j hj => ?_, ?_, h4⟩
    · show ((zu (w_pus mk k xs W).R k ((w_pus mk k xs W).n :: (w_pus mk k xs W).R k)) k).length = _
      rw [zu_s, List.length_cons, h1, List.length_cons]
      omega
    · show (zu (w_pus mk k xs W).R k _) j = _
      rw [zu_n _ _ hj]
      exact h2 j hj
    · show (w_pus mk k xs W).n + 1 = _
      rw [h3, List.length_cons]
      omega
/-- a memory in which the mill's room holds a list -/
def Hd (m : Nat) (p q : Nat) (L : List Int) (σ : zz_M) : Prop := 0 < p → L.length ≤ q ∧ ∀ (h : Nat) (x : Int), L[h]? = some x → σ.2 (m + 6) h = x
theorem Hd.mc {s m n p q : Nat} {L : List Int} {σ σ' : zz_M} (h : Hd m p q L σ) (hM : Mc s m n σ σ') : Hd m p q L σ' := fun hp => ⟨(h hp).1, fun i x hx => by rw [hM.2 _ _ (by unfold zz_c2c; omega)]; exact (h hp).2 i x hx⟩
theorem lp_spl1 {X : zz_X} {p q m s i : Nat} {mk : Int} {L : List Int} {all kept : Int} {Post : Option zz_V → zz_M → Prop} (hi : i < 6) (hpb : p < 100000) (hqb : q < 100000) (hL : L.length < 80000) (u1 : zz_V) :
    ∀ (r : Nat) (W W0 : zz_W) (σ : zz_M), r ≤ L.length → SP σ p m s W → W = w_pus mk i (L.drop r) W0 → W0.R i = [] → Hd m p q L σ → σ.1 406 m = mk → (0 < p → (w_pus mk i L W0).n ≤ p) →
      (∀ σ', SP σ' p m s (w_pus mk i L W0) → Mc s m W.n σ σ' → zz_G X 4 p_Mill_split 57 [zP 4 p q m, zP 9 0 0 s, zP 7 0 0 (s + 1 + i), u1, zI all, zI kept, zI (-1)] [] σ' Post) →
      zz_G X 4 p_Mill_split 44 [zP 4 p q m, zP 9 0 0 s, zP 7 0 0 (s + 1 + i), u1, zI all, zI kept, zI ((r : Int) - 1)] [] σ Post := by
  intro r
  induction r with
  | zero =>
    intro W W0 σ hr hSP hW h0 hH hmk hp k
    refine zz_gsn 1 rfl ?_
    refine zz_br rfl (fun h45 => ?_) (fun h45 => absurd h45 (by omega))
    have e : W = w_pus mk i L W0 := hW
    rw [e] at hSP
    exact k σ hSP Mc.rf
  | succ r ih =>
    intro W W0 σ hr hSP hW h0 hH hmk hp k
    have hrl : r < L.length := by omega
    have hdr : L.drop r = L[r] :: L.drop (r + 1) := List.drop_eq_getElem_cons hrl
    have hget : L[r]? = some L[r] := List.getElem?_eq_getElem hrl
    obtain ⟨b1, b2, b3, b4⟩ := w_pus_R (mk := mk) (k := i) (L.drop (r + 1)) W0
    obtain ⟨c1, c2, c3, c4⟩ := w_pus_R (mk := mk) (k := i) L W0
    have hdl : (L.drop (r + 1)).length = L.length - (r + 1) := List.length_drop
    have hn : 0 < p → W.n < p := fun z => by have := hp z; rw [c3] at this; rw [hW, b3, hdl]; omega
    have hlen : (W.R i).length < 100000 := by rw [hW, b1, hdl, h0]; show L.length - (r + 1) + 0 < _; omega
    have ez : ((r + 1 : Nat) : Int) - 1 = (r : Int) := by omega
    rw [ez]
    refine zz_gsn 1 rfl ?_
    refine zz_br rfl (fun h45 => absurd h45 (by omega)) (fun h45 => ?_)
    refine zz_gsn 5 rfl ?_
    refine zz_cv (n := 2) rfl rfl (t_Mill_laidAt) (Nat.le_of_ble_eq_true rfl) (Nat.le_of_ble_eq_true rfl) (Nat.le_of_ble_eq_true rfl) (fun r51 σ51 q51 => ?_)
    obtain ⟨rfl, n51, rfl, e51⟩ := q51
    refine zz_gsn 2 rfl ?_
    refine zz_cv (n := 4) rfl rfl (t_Cells_add) (Nat.le_of_ble_eq_true rfl) (Nat.le_of_ble_eq_true rfl) (Nat.le_of_ble_eq_true rfl) (fun r54 σ54 q54 => ?_)
    obtain ⟨rfl, q54⟩ := q54
    have hx : 0 < p → n51 = L[r] := fun z => by
      obtain ⟨y1, y2⟩ := hH z
      rcases e51 with ⟨-, -, e51⟩ | ⟨e51, -⟩
      · rw [e51, Int.toNat_natCast]
        exact y2 r _ hget
      · exact absurd ⟨by omega, by omega⟩ e51
    obtain ⟨p54, g54⟩ := sp_add (y := L[r]) hSP hi hn hpb hlen hx q54
    rw [hmk] at p54
    refine zz_gsn 1 rfl ?_
    refine zz_jp rfl ?_
    have ew : zw ((r : Int) + -1) = (r : Int) - 1 := by rw [zw_id (by omega) (by omega)]; omega
    rw [ew]
    refine ih (w_push mk i L[r] W) W0 _ (by omega) p54 (by rw [hdr, hW]; rfl) h0 (hH.mc g54) (by rw [g54.m (by omega)]; exact hmk) hp (fun σ' hS hM => k σ' hS (g54.tr hM (by rw [w_push_n]; omega)))
theorem lp_spl2 {X : zz_X} {p q m s i : Nat} {mk : Int} {L : List Int} {kept : Nat} {Post : Option zz_V → zz_M → Prop} (hi : i < 6) (hpb : p < 100000) (hqb : q < 100000) (hL : L.length < 80000) (u1 : zz_V) :
    ∀ (r : Nat) (W W0 : zz_W) (σ : zz_M), kept + r ≤ L.length → SP σ p m s W → W = w_pus mk i ((L.drop kept).take (L.length - kept - r)).reverse W0 → W0.R i = [] → Hd m p q L σ → σ.1 406 m = mk → (0 < p → (w_pus mk i (L.drop kept).reverse W0).n ≤ p) →
      (∀ σ', SP σ' p m s (w_pus mk i (L.drop kept).reverse W0) → Mc s m W.n σ σ' → zz_G X 4 p_Mill_split 73 [zP 4 p q m, zP 9 0 0 s, u1, zP 7 0 0 (s + 1 + i), zI (L.length : Nat), zI (kept : Nat), zI (L.length : Nat)] [] σ' Post) →
      zz_G X 4 p_Mill_split 59 [zP 4 p q m, zP 9 0 0 s, u1, zP 7 0 0 (s + 1 + i), zI (L.length : Nat), zI (kept : Nat), zI ((L.length - r : Nat) : Int)] [] σ Post := by
  intro r
  induction r with
  | zero =>
    intro W W0 σ hr hSP hW h0 hH hmk hp k
    refine zz_gsn 2 rfl ?_
    refine zz_br rfl (fun h61 => ?_) (fun h61 => absurd h61 (by omega))
    have e0 : (L.drop kept).take (L.length - kept - 0) = L.drop kept := List.take_of_length_le (by rw [List.length_drop]; exact Nat.le_refl _)
    rw [e0] at hW
    rw [hW] at hSP
    exact k σ hSP Mc.rf
  | succ r ih =>
    intro W W0 σ hr hSP hW h0 hH hmk hp k
    have hrl : L.length - (r + 1) < L.length := by omega
    have hget : L[L.length - (r + 1)]? = some L[L.length - (r + 1)] := List.getElem?_eq_getElem hrl
    have e1 : L.length - kept - r = (L.length - kept - (r + 1)) + 1 := by omega
    have hget2 : (L.drop kept)[L.length - kept - (r + 1)]? = some L[L.length - (r + 1)] := by
      rw [List.getElem?_drop, show kept + (L.length - kept - (r + 1)) = L.length - (r + 1) by omega]
      exact hget
    have htk : ((L.drop kept).take (L.length - kept - r)).reverse = L[L.length - (r + 1)] :: ((L.drop kept).take (L.length - kept - (r + 1))).reverse := by
      rw [e1, List.take_add_one, hget2]
      simp
    obtain ⟨b1, b2, b3, b4⟩ := w_pus_R (mk := mk) (k := i) ((L.drop kept).take (L.length - kept - (r + 1))).reverse W0
    obtain ⟨c1, c2, c3, c4⟩ := w_pus_R (mk := mk) (k := i) (L.drop kept).reverse W0
    have hdl : (((L.drop kept).take (L.length - kept - (r + 1))).reverse).length = L.length - kept - (r + 1) := by
      rw [List.length_reverse, List.length_take, List.length_drop]
      exact Nat.min_eq_left (by omega)
    have hdl2 : ((L.drop kept).reverse).length = L.length - kept := by rw [List.length_reverse, List.length_drop]
    have hn : 0 < p → W.n < p := fun z => by have := hp z; rw [c3, hdl2] at this; rw [hW, b3, hdl]; omega
    have hlen : (W.R i).length < 100000 := by rw [hW, b1, hdl, h0]; show L.length - kept - (r + 1) + 0 < _; omega
    refine zz_gsn 2 rfl ?_
    refine zz_br rfl (fun h61 => absurd h61 (by omega)) (fun h61 => ?_)
    refine zz_gsn 5 rfl ?_
    refine zz_cv (n := 2) rfl rfl (t_Mill_laidAt) (Nat.le_of_ble_eq_true rfl) (Nat.le_of_ble_eq_true rfl) (Nat.le_of_ble_eq_true rfl) (fun r67 σ67 q67 => ?_)
    obtain ⟨rfl, n67, rfl, e67⟩ := q67
    refine zz_gsn 2 rfl ?_
    refine zz_cv (n := 4) rfl rfl (t_Cells_add) (Nat.le_of_ble_eq_true rfl) (Nat.le_of_ble_eq_true rfl) (Nat.le_of_ble_eq_true rfl) (fun r70 σ70 q70 => ?_)
    obtain ⟨rfl, q70⟩ := q70
    have hx : 0 < p → n67 = L[L.length - (r + 1)] := fun z => by
      obtain ⟨y1, y2⟩ := hH z
      rcases e67 with ⟨-, -, e67⟩ | ⟨e67, -⟩
      · rw [e67, Int.toNat_natCast]
        exact y2 _ _ hget
      · exact absurd ⟨by omega, by omega⟩ e67
    obtain ⟨p70, g70⟩ := sp_add (y := L[L.length - (r + 1)]) hSP hi hn hpb hlen hx q70
    rw [hmk] at p70
    refine zz_gsn 1 rfl ?_
    refine zz_jp rfl ?_
    have ew : zw (((L.length - (r + 1) : Nat) : Int) + 1) = ((L.length - r : Nat) : Int) := by rw [zw_id (by omega) (by omega)]; omega
    rw [ew]
    refine ih (w_push mk i L[L.length - (r + 1)] W) W0 _ (by omega) p70 (by rw [htk, hW]; rfl) h0 (hH.mc g70) (by rw [g70.m (by omega)]; exact hmk) hp (fun σ' hS hM => k σ' hS (g70.tr hM (by rw [w_push_n]; omega)))
end
section
/-! the mill: splitting -/
theorem zz_div_n {a d : Nat} (ha : a < 2147483648) (h0 : 0 < d) (hd : d < 2147483648) : zz_div (a : Int) (d : Int) = ((a / d : Nat) : Int) := by
  unfold zz_div zz_b
  have e1 : Int32.ofInt (a : Int) = nI a := (zz_ofN ha).symm
  have e2 : Int32.ofInt (d : Int) = nI d := (zz_ofN hd).symm
  rw [e1, e2]
  show (nI a / nI d).toInt = _
  rw [pk_div (by omega) h0 (by omega), nI_toInt]
  have := Nat.div_le_self a d
  omega
theorem SP.lay {σ σ' : zz_M} {p m s q : Nat} {W : zz_W} {l : List Int} {a b : Int} (h : SP σ p m s W) (hL : Lay m l a b p q σ σ') : SP σ' p m s W := by
  obtain ⟨h1, h2, h3, h4, h5⟩ := h
  obtain ⟨m1, m2, -⟩ := hL
  refine ⟨fun k hk => ?_, fun j a1 a2 => ?_, ?_, fun hp => ?_, h5⟩
  · rw [m1, m2 (m + 3) (by omega)]
    exact h1 k hk
  · rw [m1]
    exact h2 j a1 a2
  · rw [m1]
    exact h3
  · rw [m1, m2 (m + 2) (by omega), m2 (m + 4) (by omega)]
    exact h4 hp
theorem Lay.g {σ σ' : zz_M} {p m s q n : Nat} {l : List Int} {a b : Int} (hL : Lay m l a b p q σ σ') : Mg s m n σ σ' := by
  obtain ⟨m1, m2, -⟩ := hL
  refine ⟨fun f a _ => by rw [m1], fun a i h => ?_⟩
  by_cases e : a = m + 6
  · exact absurd (Or.inr e) h
  · rw [m2 a e]
theorem Hd.eq {m p q : Nat} {L : List Int} {σ σ' : zz_M} (h : Hd m p q L σ) (e : σ'.2 = σ.2) : Hd m p q L σ' := fun hp => ⟨(h hp).1, fun i x hx => by rw [e]; exact (h hp).2 i x hx⟩
/-- both rows are laid -/
theorem Hd.of {m p q : Nat} {A B : List Int} {σ σ1 σ2 : zz_M} (h1 : Lay m A 0 1 p q σ σ1) (h2 : Lay m B ((A.length : Int) + B.length - 1) (-1) p q σ1 σ2) (hq : 0 < p → (A ++ B.reverse).length ≤ q) : Hd m p q (A ++ B.reverse) σ2 := by
  intro hp
  refine ⟨hq hp, fun h x hx => ?_⟩
  have hl : h < (A ++ B.reverse).length := (List.getElem?_eq_some_iff.mp hx).1
  have hlen : (A ++ B.reverse).length = A.length + B.length := by rw [List.length_append, List.length_reverse]
  have hhq : h < q := Nat.lt_of_lt_of_le hl (hq hp)
  obtain ⟨a1, a2⟩ := h1.2.2 hp h hhq
  obtain ⟨b1, b2⟩ := h2.2.2 hp h hhq
  have e1 : ((h : Int) - 0) * 1 = h := by omega
  have e2 : ((h : Int) - ((A.length : Int) + B.length - 1)) * (-1) = (A.length : Int) + B.length - 1 - h := by omega
  have n1 : 0 ≤ (A.length : Int) + B.length - 1 - h := by omega
  by_cases hA : h < A.length
  · have w1 : w_at A 0 1 h = some x := by
      unfold w_at
      rw [e1, if_pos (by omega), Int.toNat_natCast]
      rw [List.getElem?_append_left hA] at hx
      exact hx
    have w2 : w_at B ((A.length : Int) + B.length - 1) (-1) h = none := by
      unfold w_at
      rw [e2, if_pos n1]
      have : B.length ≤ ((A.length : Int) + B.length - 1 - h).toNat := by omega
      exact List.getElem?_eq_none this
    rw [b2 w2]
    exact a1 x w1
  · have hA2 : A.length ≤ h := by omega
    have w2 : w_at B ((A.length : Int) + B.length - 1) (-1) h = some x := by
      unfold w_at
      rw [e2, if_pos n1]
      rw [List.getElem?_append_right hA2, List.getElem?_reverse (by omega)] at hx
      rw [← hx]
      congr 1
      omega
    exact b1 x w2
theorem w_laid_len (i j : Nat) (W : zz_W) : (w_laid i j W).length = (W.R i).length + (W.R j).length := by
  unfold w_laid
  rw [List.length_append, List.length_reverse, List.length_map, List.length_map]
theorem t_Mill_split {X : zz_X} {σ : zz_M} {p q m s i j : Nat} {W : zz_W} {mk : Int} (hSP : SP σ p m s W) (hij : (i = 0 ∧ j = 1) ∨ (i = 1 ∧ j = 0)) (hmk : σ.1 406 m = mk) (hp : 0 < p → (w_spl mk i j W).n ≤ p) (hpb : p < 100000) (hqb : q < 100000) (hl : ∀ k, k < 6 → (W.R k).length < 40000) (hq : 0 < p → (w_laid i j W).length ≤ q) : zz_T X 4 p_Mill_split [zP 4 p q m, zP 9 0 0 s, zP 7 0 0 (s + 1 + i), zP 7 0 0 (s + 1 + j)] σ (fun r σ' => r = none ∧ SP σ' p m s (w_spl mk i j W) ∧ Mg s m W.n σ σ' ∧ σ'.1 401 m = 1 ∧ σ'.1 402 m = (if 0 < W.S 9 ∨ 0 < W.S 10 then 1 else 0) ∧ σ'.1 406 m = mk ∧ σ'.1 407 m = σ.1 407 m) := by
  refine zz_mk k_Mill_split o_Mill_split rfl rfl (Nat.le_of_ble_eq_true rfl) ?_
  show zz_G X 4 p_Mill_split 0 [zP 4 p q m, zP 9 0 0 s, zP 7 0 0 (s + 1 + i), zP 7 0 0 (s + 1 + j), zU, zU, zU] [] σ _
  have hi : i < 6 := by omega
  have hj : j < 6 := by omega
  have hne : i ≠ j := by omega
  have ei : σ.1 701 (s + 1 + i) = ((W.R i).length : Nat) := (hSP.1 i hi).1
  have ej : σ.1 701 (s + 1 + j) = ((W.R j).length : Nat) := (hSP.1 j hj).1
  have e9 : σ.1 910 s = W.S 9 := hSP.2.1 9 (by decide) (by decide)
  have e10 : σ.1 911 s = W.S 10 := hSP.2.1 10 (by decide) (by decide)
  have hli := hl i hi
  have hlj := hl j hj
  have hLl := w_laid_len i j W
  obtain ⟨L, hLdef⟩ : ∃ L, L = w_laid i j W := ⟨_, rfl⟩
  rw [← hLdef] at hLl hq
  have hdv : L.length / 2 ≤ L.length := Nat.div_le_self _ _
  refine zz_gsn 2 rfl ?_
  refine zz_ptz rfl (by first | exact Or.inl rfl | exact Or.inr rfl | omega) ?_
  refine zz_gsn 3 rfl ?_
  refine zz_br rfl (fun h6 => ?_) (fun h6 => ?_)
  · refine zz_gsn 1 rfl ?_
    refine zz_jp rfl ?_
    refine zz_ptz rfl (by first | exact Or.inl rfl | exact Or.inr rfl | omega) ?_
    refine zz_gsn 8 rfl ?_
    refine zz_dv rfl (by decide) ?_
    refine zz_gsn 5 rfl ?_
    refine zz_cv (n := 4) rfl rfl (t_Mill_lay (s := s) (j := i) (W := W) (SP.mf (SP.mf hSP (by omega)) (by omega)) hi (Or.inl rfl) (by omega) (by omega) hqb) (Nat.le_of_ble_eq_true rfl) (Nat.le_of_ble_eq_true rfl) (Nat.le_of_ble_eq_true rfl) (fun r28 σ28 q28 => ?_)
    obtain ⟨rfl, y28⟩ := q28
    have hov : (1 : Int) = if 0 < W.S 9 ∨ 0 < W.S 10 then 1 else 0 := by rw [if_pos (Or.inl (by rw [← e9]; exact h6))]
    have ea : zw (σ.1 701 (s + 1 + i) + σ.1 701 (s + 1 + j)) = ((L.length : Nat) : Int) := by rw [ei, ej, zw_id (by omega) (by omega)]; omega
    have ek : zz_div (zw (σ.1 701 (s + 1 + i) + σ.1 701 (s + 1 + j))) 2 = ((L.length / 2 : Nat) : Int) := by rw [ea]; exact zz_div_n (d := 2) (by omega) (by decide) (by decide)
    have p28 := (SP.mf (SP.mf hSP (f := 401) (a := m) (v := 1) (by omega)) (f := 402) (a := m) (v := 1) (by omega)).lay y28
    have v1 : σ28.1 401 m = 1 := by rw [y28.1, sf_f _ _ (by omega), sf_h]
    have v2 : σ28.1 402 m = if 0 < W.S 9 ∨ 0 < W.S 10 then 1 else 0 := by rw [y28.1, sf_h]; exact hov
    have v3 : σ28.1 406 m = mk := by rw [y28.1, sf_f _ _ (by omega), sf_f _ _ (by omega)]; exact hmk
    have v4 : σ28.1 407 m = σ.1 407 m := by rw [y28.1, sf_f _ _ (by omega), sf_f _ _ (by omega)]
    have g28 : Mg s m W.n σ σ28 := ((Mg.mi (Or.inl rfl)).tr (Mg.mi (Or.inr (Or.inl rfl))) (Nat.le_refl _)).tr y28.g (Nat.le_refl _)
    have er1 : zw (((L.length : Nat) : Int) - 1) = ((L.length : Nat) : Int) - 1 := by rw [zw_id (by omega) (by omega)]
    have er2 : zw (((L.length / 2 : Nat) : Int) - 1) = ((L.length / 2 : Nat) : Int) - 1 := by rw [zw_id (by omega) (by omega)]
    refine zz_gsn 6 rfl ?_
    refine zz_cv (n := 4) rfl rfl (t_Mill_lay (s := s) (j := j) (W := W) p28 hj (Or.inr rfl) (by show -100000 < zw (zw (σ.1 701 (s + 1 + i) + σ.1 701 (s + 1 + j)) - 1) ∧ zw (zw (σ.1 701 (s + 1 + i) + σ.1 701 (s + 1 + j)) - 1) < 100000; rw [ea, er1]; omega) (by omega) hqb) (Nat.le_of_ble_eq_true rfl) (Nat.le_of_ble_eq_true rfl) (Nat.le_of_ble_eq_true rfl) (fun r35 σ35 q35 => ?_)
    obtain ⟨rfl, y35⟩ := q35
    have p35 := p28.lay y35
    have hA : ((W.R i).map W.num).length = (W.R i).length := List.length_map ..
    have hB : ((W.R j).map W.num).length = (W.R j).length := List.length_map ..
    have H35 : Hd m p q L σ35 := by
      rw [hLdef]
      refine Hd.of y28 ?_ (fun z => by have := hq z; rw [hLdef] at this; exact this)
      have e : (((W.R i).map W.num).length : Int) + ((W.R j).map W.num).length - 1 = zw (zw (σ.1 701 (s + 1 + i) + σ.1 701 (s + 1 + j)) - 1) := by rw [ea, er1, hA, hB]; omega
      rw [e]
      exact y35
    have g35 : Mg s m W.n σ σ35 := g28.tr y35.g (Nat.le_refl _)
    have v1 : σ35.1 401 m = 1 := by rw [y35.1]; exact v1
    have v2 : σ35.1 402 m = if 0 < W.S 9 ∨ 0 < W.S 10 then 1 else 0 := by rw [y35.1]; exact v2
    have v3 : σ35.1 406 m = mk := by rw [y35.1]; exact v3
    have v4 : σ35.1 407 m = σ.1 407 m := by rw [y35.1]; exact v4
    refine zz_gsn 1 rfl ?_
    refine zz_cv (n := 1) rfl rfl (t_Row_clear) (Nat.le_of_ble_eq_true rfl) (Nat.le_of_ble_eq_true rfl) (Nat.le_of_ble_eq_true rfl) (fun r37 σ37 q37 => ?_)
    obtain ⟨rfl, q37⟩ := q37
    have p37 : SP σ37 p m s (w_R i [] W) := by rw [q37]; exact p35.clr hi
    have g37 : Mc s m W.n σ35 σ37 := by rw [q37]; exact Mc.row hi
    clear q37
    refine zz_gsn 1 rfl ?_
    refine zz_cv (n := 1) rfl rfl (t_Row_clear) (Nat.le_of_ble_eq_true rfl) (Nat.le_of_ble_eq_true rfl) (Nat.le_of_ble_eq_true rfl) (fun r39 σ39 q39 => ?_)
    obtain ⟨rfl, q39⟩ := q39
    have p39 : SP σ39 p m s (w_R j [] (w_R i [] W)) := by rw [q39]; exact p37.clr hj
    have g39 : Mc s m W.n σ37 σ39 := by rw [q39]; exact Mc.row hj
    clear q39
    have gc := g37.tr g39 (Nat.le_refl _)
    have H39 := H35.mc gc
    refine zz_gsn 4 rfl ?_
    have hT : (L.take (L.length / 2)).length = L.length / 2 := by rw [List.length_take]; exact Nat.min_eq_left hdv
    have HT : Hd m p q (L.take (L.length / 2)) σ39 := fun hp => ⟨by rw [hT]; have := (H39 hp).1; omega, fun h x hx => (H39 hp).2 h x (by
      rw [List.getElem?_take] at hx
      split at hx
      · exact hx
      · cases hx)⟩
    obtain ⟨s1, s2, s3, s4⟩ := w_pus_R (mk := mk) (k := i) (L.take (L.length / 2)) (w_R j [] (w_R i [] W))
    obtain ⟨t1, t2, t3, t4⟩ := w_pus_R (mk := mk) (k := j) (L.drop (L.length / 2)).reverse (w_pus mk i (L.take (L.length / 2)) (w_R j [] (w_R i [] W)))
    have hspl : w_spl mk i j W = w_S 10 (w_len 1 (w_pus mk j (L.drop (L.length / 2)).reverse (w_pus mk i (L.take (L.length / 2)) (w_R j [] (w_R i [] W))))) (w_S 9 (w_len 0 (w_pus mk j (L.drop (L.length / 2)).reverse (w_pus mk i (L.take (L.length / 2)) (w_R j [] (w_R i [] W))))) (w_pus mk j (L.drop (L.length / 2)).reverse (w_pus mk i (L.take (L.length / 2)) (w_R j [] (w_R i [] W))))) := by rw [hLdef]; rfl
    have hn2 : 0 < p → (w_pus mk j (L.drop (L.length / 2)).reverse (w_pus mk i (L.take (L.length / 2)) (w_R j [] (w_R i [] W)))).n ≤ p := fun z => by have := hp z; rw [hspl] at this; exact this
    have hRi : (w_R j [] (w_R i [] W)).R i = [] := by
      show (zu (zu W.R i []) j []) i = []
      rw [zu_n _ _ hne, zu_s]
    have hRj : (w_pus mk i (L.take (L.length / 2)) (w_R j [] (w_R i [] W))).R j = [] := by
      rw [s2 j (Ne.symm hne)]
      show (zu (zu W.R i []) j []) j = []
      rw [zu_s]
    refine zz_lse (ls' := [zP 4 p q m, zP 9 0 0 s, zP 7 0 0 (s + 1 + i), zP 7 0 0 (s + 1 + j), zI ((L.length : Nat) : Int), zI ((L.length / 2 : Nat) : Int), zI (((L.length / 2 : Nat) : Int) - 1)]) (by
      rw [← er2, ← ek, ← ea]
      rfl) ?_
    refine lp_spl1 (mk := mk) (W0 := w_R j [] (w_R i [] W)) (L := L.take (L.length / 2)) hi hpb hqb (by omega) _ (L.length / 2) _ σ39 (by omega) p39 (by rw [List.drop_of_length_le (by omega)]; rfl) hRi HT (by rw [gc.m (by omega)]; exact v3) (fun z => Nat.le_trans (by rw [t3]; omega) (hn2 z)) (fun σ4 p4 g4 => ?_)
    refine zz_gsn 2 rfl ?_
    refine zz_lse (ls' := [zP 4 p q m, zP 9 0 0 s, zP 7 0 0 (s + 1 + i), zP 7 0 0 (s + 1 + j), zI ((L.length : Nat) : Int), zI ((L.length / 2 : Nat) : Int), zI ((L.length - (L.length - L.length / 2) : Nat) : Int)]) (by
      have e : L.length - (L.length - L.length / 2) = L.length / 2 := by omega
      rw [e]
      rfl) ?_
    refine lp_spl2 (mk := mk) (W0 := w_pus mk i (L.take (L.length / 2)) (w_R j [] (w_R i [] W))) hj hpb hqb (by omega) _ (L.length - L.length / 2) _ σ4 (by omega) p4 (by rw [Nat.sub_self, List.take_zero]; rfl) hRj (H39.mc g4) (by rw [g4.m (by omega), gc.m (by omega)]; exact v3) hn2 (fun σ5 p5 g5 => ?_)
    have gm : Mc s m W.n σ35 σ5 := (gc.tr g4 (Nat.le_refl _)).tr g5 (by rw [s3]; show W.n ≤ W.n + _; omega)
    have f0 : σ5.1 701 (s + 1) = w_len 0 (w_pus mk j (L.drop (L.length / 2)).reverse (w_pus mk i (L.take (L.length / 2)) (w_R j [] (w_R i [] W)))) := (p5.1 0 (by decide)).1
    have f1 : σ5.1 701 (s + 2) = w_len 1 (w_pus mk j (L.drop (L.length / 2)).reverse (w_pus mk i (L.take (L.length / 2)) (w_R j [] (w_R i [] W)))) := (p5.1 1 (by decide)).1
    refine zz_gsn 10 rfl ?_
    refine zz_rv rfl rfl ?_
    rw [hspl]
    have p6 := (p5.st (j := 9) (v := σ5.1 701 (s + 1)) (by decide)).st (j := 10) (v := σ5.1 701 (s + 2)) (by decide)
    rw [f0, f1] at p6
    have g6 : Mc s m W.n σ35 (zz_sf (zz_sf σ5 910 s (σ5.1 701 (s + 1))) 911 s (σ5.1 701 (s + 2))) := gm.tr ((Mc.st (by decide)).tr (Mc.st (by decide)) (Nat.le_refl _)) (Nat.le_refl _)
    refine ⟨rfl, ?_, g35.tr g6.g (Nat.le_refl _), (g6.m (by omega)).trans v1, (g6.m (by omega)).trans v2, (g6.m (by omega)).trans v3, (g6.m (by omega)).trans v4⟩
    show SP (zz_sf (zz_sf σ5 910 s (σ5.1 701 (s + 1))) 911 s (σ5.1 701 (s + 2))) p m s _
    rw [f0, f1]
    exact p6
  · refine zz_gsn 2 rfl ?_
    refine zz_br rfl (fun h9 => ?_) (fun h9 => ?_)
    · refine zz_gsn 1 rfl ?_
      refine zz_ptz rfl (by first | exact Or.inl rfl | exact Or.inr rfl | omega) ?_
      refine zz_gsn 8 rfl ?_
      refine zz_dv rfl (by decide) ?_
      refine zz_gsn 5 rfl ?_
      refine zz_cv (n := 4) rfl rfl (t_Mill_lay (s := s) (j := i) (W := W) (SP.mf (SP.mf hSP (by omega)) (by omega)) hi (Or.inl rfl) (by omega) (by omega) hqb) (Nat.le_of_ble_eq_true rfl) (Nat.le_of_ble_eq_true rfl) (Nat.le_of_ble_eq_true rfl) (fun r28 σ28 q28 => ?_)
      obtain ⟨rfl, y28⟩ := q28
      have hov : (0 : Int) = if 0 < W.S 9 ∨ 0 < W.S 10 then 1 else 0 := by rw [if_neg (fun z => z.elim (fun z => by rw [← e9] at z; exact absurd z (Int.not_lt.mpr h6)) (fun z => by rw [← e10] at z; exact absurd z (Int.not_lt.mpr h9)))]
      have ea : zw (σ.1 701 (s + 1 + i) + σ.1 701 (s + 1 + j)) = ((L.length : Nat) : Int) := by rw [ei, ej, zw_id (by omega) (by omega)]; omega
      have ek : zz_div (zw (σ.1 701 (s + 1 + i) + σ.1 701 (s + 1 + j))) 2 = ((L.length / 2 : Nat) : Int) := by rw [ea]; exact zz_div_n (d := 2) (by omega) (by decide) (by decide)
      have p28 := (SP.mf (SP.mf hSP (f := 401) (a := m) (v := 1) (by omega)) (f := 402) (a := m) (v := 0) (by omega)).lay y28
      have v1 : σ28.1 401 m = 1 := by rw [y28.1, sf_f _ _ (by omega), sf_h]
      have v2 : σ28.1 402 m = if 0 < W.S 9 ∨ 0 < W.S 10 then 1 else 0 := by rw [y28.1, sf_h]; exact hov
      have v3 : σ28.1 406 m = mk := by rw [y28.1, sf_f _ _ (by omega), sf_f _ _ (by omega)]; exact hmk
      have v4 : σ28.1 407 m = σ.1 407 m := by rw [y28.1, sf_f _ _ (by omega), sf_f _ _ (by omega)]
      have g28 : Mg s m W.n σ σ28 := ((Mg.mi (Or.inl rfl)).tr (Mg.mi (Or.inr (Or.inl rfl))) (Nat.le_refl _)).tr y28.g (Nat.le_refl _)
      have er1 : zw (((L.length : Nat) : Int) - 1) = ((L.length : Nat) : Int) - 1 := by rw [zw_id (by omega) (by omega)]
      have er2 : zw (((L.length / 2 : Nat) : Int) - 1) = ((L.length / 2 : Nat) : Int) - 1 := by rw [zw_id (by omega) (by omega)]
      refine zz_gsn 6 rfl ?_
      refine zz_cv (n := 4) rfl rfl (t_Mill_lay (s := s) (j := j) (W := W) p28 hj (Or.inr rfl) (by show -100000 < zw (zw (σ.1 701 (s + 1 + i) + σ.1 701 (s + 1 + j)) - 1) ∧ zw (zw (σ.1 701 (s + 1 + i) + σ.1 701 (s + 1 + j)) - 1) < 100000; rw [ea, er1]; omega) (by omega) hqb) (Nat.le_of_ble_eq_true rfl) (Nat.le_of_ble_eq_true rfl) (Nat.le_of_ble_eq_true rfl) (fun r35 σ35 q35 => ?_)
      obtain ⟨rfl, y35⟩ := q35
      have p35 := p28.lay y35
      have hA : ((W.R i).map W.num).length = (W.R i).length := List.length_map ..
      have hB : ((W.R j).map W.num).length = (W.R j).length := List.length_map ..
      have H35 : Hd m p q L σ35 := by
        rw [hLdef]
        refine Hd.of y28 ?_ (fun z => by have := hq z; rw [hLdef] at this; exact this)
        have e : (((W.R i).map W.num).length : Int) + ((W.R j).map W.num).length - 1 = zw (zw (σ.1 701 (s + 1 + i) + σ.1 701 (s + 1 + j)) - 1) := by rw [ea, er1, hA, hB]; omega
        rw [e]
        exact y35
      have g35 : Mg s m W.n σ σ35 := g28.tr y35.g (Nat.le_refl _)
      have v1 : σ35.1 401 m = 1 := by rw [y35.1]; exact v1
      have v2 : σ35.1 402 m = if 0 < W.S 9 ∨ 0 < W.S 10 then 1 else 0 := by rw [y35.1]; exact v2
      have v3 : σ35.1 406 m = mk := by rw [y35.1]; exact v3
      have v4 : σ35.1 407 m = σ.1 407 m := by rw [y35.1]; exact v4
      refine zz_gsn 1 rfl ?_
      refine zz_cv (n := 1) rfl rfl (t_Row_clear) (Nat.le_of_ble_eq_true rfl) (Nat.le_of_ble_eq_true rfl) (Nat.le_of_ble_eq_true rfl) (fun r37 σ37 q37 => ?_)
      obtain ⟨rfl, q37⟩ := q37
      have p37 : SP σ37 p m s (w_R i [] W) := by rw [q37]; exact p35.clr hi
      have g37 : Mc s m W.n σ35 σ37 := by rw [q37]; exact Mc.row hi
      clear q37
      refine zz_gsn 1 rfl ?_
      refine zz_cv (n := 1) rfl rfl (t_Row_clear) (Nat.le_of_ble_eq_true rfl) (Nat.le_of_ble_eq_true rfl) (Nat.le_of_ble_eq_true rfl) (fun r39 σ39 q39 => ?_)
      obtain ⟨rfl, q39⟩ := q39
      have p39 : SP σ39 p m s (w_R j [] (w_R i [] W)) := by rw [q39]; exact p37.clr hj
      have g39 : Mc s m W.n σ37 σ39 := by rw [q39]; exact Mc.row hj
      clear q39
      have gc := g37.tr g39 (Nat.le_refl _)
      have H39 := H35.mc gc
      refine zz_gsn 4 rfl ?_
      have hT : (L.take (L.length / 2)).length = L.length / 2 := by rw [List.length_take]; exact Nat.min_eq_left hdv
      have HT : Hd m p q (L.take (L.length / 2)) σ39 := fun hp => ⟨by rw [hT]; have := (H39 hp).1; omega, fun h x hx => (H39 hp).2 h x (by
        rw [List.getElem?_take] at hx
        split at hx
        · exact hx
        · cases hx)⟩
      obtain ⟨s1, s2, s3, s4⟩ := w_pus_R (mk := mk) (k := i) (L.take (L.length / 2)) (w_R j [] (w_R i [] W))
      obtain ⟨t1, t2, t3, t4⟩ := w_pus_R (mk := mk) (k := j) (L.drop (L.length / 2)).reverse (w_pus mk i (L.take (L.length / 2)) (w_R j [] (w_R i [] W)))
      have hspl : w_spl mk i j W = w_S 10 (w_len 1 (w_pus mk j (L.drop (L.length / 2)).reverse (w_pus mk i (L.take (L.length / 2)) (w_R j [] (w_R i [] W))))) (w_S 9 (w_len 0 (w_pus mk j (L.drop (L.length / 2)).reverse (w_pus mk i (L.take (L.length / 2)) (w_R j [] (w_R i [] W))))) (w_pus mk j (L.drop (L.length / 2)).reverse (w_pus mk i (L.take (L.length / 2)) (w_R j [] (w_R i [] W))))) := by rw [hLdef]; rfl
      have hn2 : 0 < p → (w_pus mk j (L.drop (L.length / 2)).reverse (w_pus mk i (L.take (L.length / 2)) (w_R j [] (w_R i [] W)))).n ≤ p := fun z => by have := hp z; rw [hspl] at this; exact this
      have hRi : (w_R j [] (w_R i [] W)).R i = [] := by
        show (zu (zu W.R i []) j []) i = []
        rw [zu_n _ _ hne, zu_s]
      have hRj : (w_pus mk i (L.take (L.length / 2)) (w_R j [] (w_R i [] W))).R j = [] := by
        rw [s2 j (Ne.symm hne)]
        show (zu (zu W.R i []) j []) j = []
        rw [zu_s]
      refine zz_lse (ls' := [zP 4 p q m, zP 9 0 0 s, zP 7 0 0 (s + 1 + i), zP 7 0 0 (s + 1 + j), zI ((L.length : Nat) : Int), zI ((L.length / 2 : Nat) : Int), zI (((L.length / 2 : Nat) : Int) - 1)]) (by
        rw [← er2, ← ek, ← ea]
        rfl) ?_
      refine lp_spl1 (mk := mk) (W0 := w_R j [] (w_R i [] W)) (L := L.take (L.length / 2)) hi hpb hqb (by omega) _ (L.length / 2) _ σ39 (by omega) p39 (by rw [List.drop_of_length_le (by omega)]; rfl) hRi HT (by rw [gc.m (by omega)]; exact v3) (fun z => Nat.le_trans (by rw [t3]; omega) (hn2 z)) (fun σ4 p4 g4 => ?_)
      refine zz_gsn 2 rfl ?_
      refine zz_lse (ls' := [zP 4 p q m, zP 9 0 0 s, zP 7 0 0 (s + 1 + i), zP 7 0 0 (s + 1 + j), zI ((L.length : Nat) : Int), zI ((L.length / 2 : Nat) : Int), zI ((L.length - (L.length - L.length / 2) : Nat) : Int)]) (by
        have e : L.length - (L.length - L.length / 2) = L.length / 2 := by omega
        rw [e]
        rfl) ?_
      refine lp_spl2 (mk := mk) (W0 := w_pus mk i (L.take (L.length / 2)) (w_R j [] (w_R i [] W))) hj hpb hqb (by omega) _ (L.length - L.length / 2) _ σ4 (by omega) p4 (by rw [Nat.sub_self, List.take_zero]; rfl) hRj (H39.mc g4) (by rw [g4.m (by omega), gc.m (by omega)]; exact v3) hn2 (fun σ5 p5 g5 => ?_)
      have gm : Mc s m W.n σ35 σ5 := (gc.tr g4 (Nat.le_refl _)).tr g5 (by rw [s3]; show W.n ≤ W.n + _; omega)
      have f0 : σ5.1 701 (s + 1) = w_len 0 (w_pus mk j (L.drop (L.length / 2)).reverse (w_pus mk i (L.take (L.length / 2)) (w_R j [] (w_R i [] W)))) := (p5.1 0 (by decide)).1
      have f1 : σ5.1 701 (s + 2) = w_len 1 (w_pus mk j (L.drop (L.length / 2)).reverse (w_pus mk i (L.take (L.length / 2)) (w_R j [] (w_R i [] W)))) := (p5.1 1 (by decide)).1
      refine zz_gsn 10 rfl ?_
      refine zz_rv rfl rfl ?_
      rw [hspl]
      have p6 := (p5.st (j := 9) (v := σ5.1 701 (s + 1)) (by decide)).st (j := 10) (v := σ5.1 701 (s + 2)) (by decide)
      rw [f0, f1] at p6
      have g6 : Mc s m W.n σ35 (zz_sf (zz_sf σ5 910 s (σ5.1 701 (s + 1))) 911 s (σ5.1 701 (s + 2))) := gm.tr ((Mc.st (by decide)).tr (Mc.st (by decide)) (Nat.le_refl _)) (Nat.le_refl _)
      refine ⟨rfl, ?_, g35.tr g6.g (Nat.le_refl _), (g6.m (by omega)).trans v1, (g6.m (by omega)).trans v2, (g6.m (by omega)).trans v3, (g6.m (by omega)).trans v4⟩
      show SP (zz_sf (zz_sf σ5 910 s (σ5.1 701 (s + 1))) 911 s (σ5.1 701 (s + 2))) p m s _
      rw [f0, f1]
      exact p6
    · refine zz_gsn 1 rfl ?_
      refine zz_jp rfl ?_
      refine zz_ptz rfl (by first | exact Or.inl rfl | exact Or.inr rfl | omega) ?_
      refine zz_gsn 8 rfl ?_
      refine zz_dv rfl (by decide) ?_
      refine zz_gsn 5 rfl ?_
      refine zz_cv (n := 4) rfl rfl (t_Mill_lay (s := s) (j := i) (W := W) (SP.mf (SP.mf hSP (by omega)) (by omega)) hi (Or.inl rfl) (by omega) (by omega) hqb) (Nat.le_of_ble_eq_true rfl) (Nat.le_of_ble_eq_true rfl) (Nat.le_of_ble_eq_true rfl) (fun r28 σ28 q28 => ?_)
      obtain ⟨rfl, y28⟩ := q28
      have hov : (1 : Int) = if 0 < W.S 9 ∨ 0 < W.S 10 then 1 else 0 := by rw [if_pos (Or.inr (by rw [← e10]; exact h9))]
      have ea : zw (σ.1 701 (s + 1 + i) + σ.1 701 (s + 1 + j)) = ((L.length : Nat) : Int) := by rw [ei, ej, zw_id (by omega) (by omega)]; omega
      have ek : zz_div (zw (σ.1 701 (s + 1 + i) + σ.1 701 (s + 1 + j))) 2 = ((L.length / 2 : Nat) : Int) := by rw [ea]; exact zz_div_n (d := 2) (by omega) (by decide) (by decide)
      have p28 := (SP.mf (SP.mf hSP (f := 401) (a := m) (v := 1) (by omega)) (f := 402) (a := m) (v := 1) (by omega)).lay y28
      have v1 : σ28.1 401 m = 1 := by rw [y28.1, sf_f _ _ (by omega), sf_h]
      have v2 : σ28.1 402 m = if 0 < W.S 9 ∨ 0 < W.S 10 then 1 else 0 := by rw [y28.1, sf_h]; exact hov
      have v3 : σ28.1 406 m = mk := by rw [y28.1, sf_f _ _ (by omega), sf_f _ _ (by omega)]; exact hmk
      have v4 : σ28.1 407 m = σ.1 407 m := by rw [y28.1, sf_f _ _ (by omega), sf_f _ _ (by omega)]
      have g28 : Mg s m W.n σ σ28 := ((Mg.mi (Or.inl rfl)).tr (Mg.mi (Or.inr (Or.inl rfl))) (Nat.le_refl _)).tr y28.g (Nat.le_refl _)
      have er1 : zw (((L.length : Nat) : Int) - 1) = ((L.length : Nat) : Int) - 1 := by rw [zw_id (by omega) (by omega)]
      have er2 : zw (((L.length / 2 : Nat) : Int) - 1) = ((L.length / 2 : Nat) : Int) - 1 := by rw [zw_id (by omega) (by omega)]
      refine zz_gsn 6 rfl ?_
      refine zz_cv (n := 4) rfl rfl (t_Mill_lay (s := s) (j := j) (W := W) p28 hj (Or.inr rfl) (by show -100000 < zw (zw (σ.1 701 (s + 1 + i) + σ.1 701 (s + 1 + j)) - 1) ∧ zw (zw (σ.1 701 (s + 1 + i) + σ.1 701 (s + 1 + j)) - 1) < 100000; rw [ea, er1]; omega) (by omega) hqb) (Nat.le_of_ble_eq_true rfl) (Nat.le_of_ble_eq_true rfl) (Nat.le_of_ble_eq_true rfl) (fun r35 σ35 q35 => ?_)
      obtain ⟨rfl, y35⟩ := q35
      have p35 := p28.lay y35
      have hA : ((W.R i).map W.num).length = (W.R i).length := List.length_map ..
      have hB : ((W.R j).map W.num).length = (W.R j).length := List.length_map ..
      have H35 : Hd m p q L σ35 := by
        rw [hLdef]
        refine Hd.of y28 ?_ (fun z => by have := hq z; rw [hLdef] at this; exact this)
        have e : (((W.R i).map W.num).length : Int) + ((W.R j).map W.num).length - 1 = zw (zw (σ.1 701 (s + 1 + i) + σ.1 701 (s + 1 + j)) - 1) := by rw [ea, er1, hA, hB]; omega
        rw [e]
        exact y35
      have g35 : Mg s m W.n σ σ35 := g28.tr y35.g (Nat.le_refl _)
      have v1 : σ35.1 401 m = 1 := by rw [y35.1]; exact v1
      have v2 : σ35.1 402 m = if 0 < W.S 9 ∨ 0 < W.S 10 then 1 else 0 := by rw [y35.1]; exact v2
      have v3 : σ35.1 406 m = mk := by rw [y35.1]; exact v3
      have v4 : σ35.1 407 m = σ.1 407 m := by rw [y35.1]; exact v4
      refine zz_gsn 1 rfl ?_
      refine zz_cv (n := 1) rfl rfl (t_Row_clear) (Nat.le_of_ble_eq_true rfl) (Nat.le_of_ble_eq_true rfl) (Nat.le_of_ble_eq_true rfl) (fun r37 σ37 q37 => ?_)
      obtain ⟨rfl, q37⟩ := q37
      have p37 : SP σ37 p m s (w_R i [] W) := by rw [q37]; exact p35.clr hi
      have g37 : Mc s m W.n σ35 σ37 := by rw [q37]; exact Mc.row hi
      clear q37
      refine zz_gsn 1 rfl ?_
      refine zz_cv (n := 1) rfl rfl (t_Row_clear) (Nat.le_of_ble_eq_true rfl) (Nat.le_of_ble_eq_true rfl) (Nat.le_of_ble_eq_true rfl) (fun r39 σ39 q39 => ?_)
      obtain ⟨rfl, q39⟩ := q39
      have p39 : SP σ39 p m s (w_R j [] (w_R i [] W)) := by rw [q39]; exact p37.clr hj
      have g39 : Mc s m W.n σ37 σ39 := by rw [q39]; exact Mc.row hj
      clear q39
      have gc := g37.tr g39 (Nat.le_refl _)
      have H39 := H35.mc gc
      refine zz_gsn 4 rfl ?_
      have hT : (L.take (L.length / 2)).length = L.length / 2 := by rw [List.length_take]; exact Nat.min_eq_left hdv
      have HT : Hd m p q (L.take (L.length / 2)) σ39 := fun hp => ⟨by rw [hT]; have := (H39 hp).1; omega, fun h x hx => (H39 hp).2 h x (by
        rw [List.getElem?_take] at hx
        split at hx
        · exact hx
        · cases hx)⟩
      obtain ⟨s1, s2, s3, s4⟩ := w_pus_R (mk := mk) (k := i) (L.take (L.length / 2)) (w_R j [] (w_R i [] W))
      obtain ⟨t1, t2, t3, t4⟩ := w_pus_R (mk := mk) (k := j) (L.drop (L.length / 2)).reverse (w_pus mk i (L.take (L.length / 2)) (w_R j [] (w_R i [] W)))
      have hspl : w_spl mk i j W = w_S 10 (w_len 1 (w_pus mk j (L.drop (L.length / 2)).reverse (w_pus mk i (L.take (L.length / 2)) (w_R j [] (w_R i [] W))))) (w_S 9 (w_len 0 (w_pus mk j (L.drop (L.length / 2)).reverse (w_pus mk i (L.take (L.length / 2)) (w_R j [] (w_R i [] W))))) (w_pus mk j (L.drop (L.length / 2)).reverse (w_pus mk i (L.take (L.length / 2)) (w_R j [] (w_R i [] W))))) := by rw [hLdef]; rfl
      have hn2 : 0 < p → (w_pus mk j (L.drop (L.length / 2)).reverse (w_pus mk i (L.take (L.length / 2)) (w_R j [] (w_R i [] W)))).n ≤ p := fun z => by have := hp z; rw [hspl] at this; exact this
      have hRi : (w_R j [] (w_R i [] W)).R i = [] := by
        show (zu (zu W.R i []) j []) i = []
        rw [zu_n _ _ hne, zu_s]
      have hRj : (w_pus mk i (L.take (L.length / 2)) (w_R j [] (w_R i [] W))).R j = [] := by
        rw [s2 j (Ne.symm hne)]
        show (zu (zu W.R i []) j []) j = []
        rw [zu_s]
      refine zz_lse (ls' := [zP 4 p q m, zP 9 0 0 s, zP 7 0 0 (s + 1 + i), zP 7 0 0 (s + 1 + j), zI ((L.length : Nat) : Int), zI ((L.length / 2 : Nat) : Int), zI (((L.length / 2 : Nat) : Int) - 1)]) (by
        rw [← er2, ← ek, ← ea]
        rfl) ?_
      refine lp_spl1 (mk := mk) (W0 := w_R j [] (w_R i [] W)) (L := L.take (L.length / 2)) hi hpb hqb (by omega) _ (L.length / 2) _ σ39 (by omega) p39 (by rw [List.drop_of_length_le (by omega)]; rfl) hRi HT (by rw [gc.m (by omega)]; exact v3) (fun z => Nat.le_trans (by rw [t3]; omega) (hn2 z)) (fun σ4 p4 g4 => ?_)
      refine zz_gsn 2 rfl ?_
      refine zz_lse (ls' := [zP 4 p q m, zP 9 0 0 s, zP 7 0 0 (s + 1 + i), zP 7 0 0 (s + 1 + j), zI ((L.length : Nat) : Int), zI ((L.length / 2 : Nat) : Int), zI ((L.length - (L.length - L.length / 2) : Nat) : Int)]) (by
        have e : L.length - (L.length - L.length / 2) = L.length / 2 := by omega
        rw [e]
        rfl) ?_
      refine lp_spl2 (mk := mk) (W0 := w_pus mk i (L.take (L.length / 2)) (w_R j [] (w_R i [] W))) hj hpb hqb (by omega) _ (L.length - L.length / 2) _ σ4 (by omega) p4 (by rw [Nat.sub_self, List.take_zero]; rfl) hRj (H39.mc g4) (by rw [g4.m (by omega), gc.m (by omega)]; exact v3) hn2 (fun σ5 p5 g5 => ?_)
      have gm : Mc s m W.n σ35 σ5 := (gc.tr g4 (Nat.le_refl _)).tr g5 (by rw [s3]; show W.n ≤ W.n + _; omega)
      have f0 : σ5.1 701 (s + 1) = w_len 0 (w_pus mk j (L.drop (L.length / 2)).reverse (w_pus mk i (L.take (L.length / 2)) (w_R j [] (w_R i [] W)))) := (p5.1 0 (by decide)).1
      have f1 : σ5.1 701 (s + 2) = w_len 1 (w_pus mk j (L.drop (L.length / 2)).reverse (w_pus mk i (L.take (L.length / 2)) (w_R j [] (w_R i [] W)))) := (p5.1 1 (by decide)).1
      refine zz_gsn 10 rfl ?_
      refine zz_rv rfl rfl ?_
      rw [hspl]
      have p6 := (p5.st (j := 9) (v := σ5.1 701 (s + 1)) (by decide)).st (j := 10) (v := σ5.1 701 (s + 2)) (by decide)
      rw [f0, f1] at p6
      have g6 : Mc s m W.n σ35 (zz_sf (zz_sf σ5 910 s (σ5.1 701 (s + 1))) 911 s (σ5.1 701 (s + 2))) := gm.tr ((Mc.st (by decide)).tr (Mc.st (by decide)) (Nat.le_refl _)) (Nat.le_refl _)
      refine ⟨rfl, ?_, g35.tr g6.g (Nat.le_refl _), (g6.m (by omega)).trans v1, (g6.m (by omega)).trans v2, (g6.m (by omega)).trans v3, (g6.m (by omega)).trans v4⟩
      show SP (zz_sf (zz_sf σ5 910 s (σ5.1 701 (s + 1))) 911 s (σ5.1 701 (s + 2))) p m s _
      rw [f0, f1]
      exact p6
end
section
/-! the mill: LAW 2 -/
theorem w_spl_n (mk : Int) (i j : Nat) (W : zz_W) : (w_spl mk i j W).n = W.n + (w_laid i j W).length := by
  obtain ⟨s1, s2, s3, s4⟩ := w_pus_R (mk := mk) (k := i) ((w_laid i j W).take ((w_laid i j W).length / 2)) (w_R j [] (w_R i [] W))
  obtain ⟨t1, t2, t3, t4⟩ := w_pus_R (mk := mk) (k := j) ((w_laid i j W).drop ((w_laid i j W).length / 2)).reverse (w_pus mk i ((w_laid i j W).take ((w_laid i j W).length / 2)) (w_R j [] (w_R i [] W)))
  show (w_pus mk j _ (w_pus mk i _ (w_R j [] (w_R i [] W)))).n = _
  rw [t3, s3, List.length_reverse, List.length_drop, List.length_take]
  have h := Nat.div_le_self (w_laid i j W).length 2
  rw [Nat.min_eq_left h]
  show W.n + _ + _ = _
  omega
theorem SP.s9 {σ : zz_M} {p m s : Nat} {W : zz_W} (h : SP σ p m s W) {v w : Int} : SP (zz_sf (zz_sf σ 910 s v) 911 s w) p m s (w_S 10 w (w_S 9 v W)) := (h.st (j := 9) (by decide)).st (j := 10) (by decide)
theorem zz_sge {X : zz_X} {d : Nat} {P : zz_P} {j : Nat} {ls st : List zz_V} {σ σ' : zz_M} {Post : Option zz_V → zz_M → Prop} (h : σ' = σ) (k : zz_G X d P j ls st σ' Post) : zz_G X d P j ls st σ Post := h ▸ k
theorem t_Mill_even {X : zz_X} {σ : zz_M} {p q m s : Nat} {W : zz_W} {mk C sh : Int} (hSP : SP σ p m s W) (hmk : σ.1 406 m = mk) (hC0 : σ.1 405 m = C) (hC : 0 ≤ C ∧ C ≤ 4) (hsh : 0 ≤ sh ∧ sh ≤ 2) (h401 : σ.1 401 m = 0) (h402 : σ.1 402 m = 0) (h407 : 0 ≤ σ.1 407 m ∧ σ.1 407 m < 900000) (hS9 : 0 ≤ W.S 9 ∧ W.S 9 < 900000) (hS10 : 0 ≤ W.S 10 ∧ W.S 10 < 900000) (hp : 0 < p → (w_evn mk C (w_pay sh W)).n ≤ p) (hpb : p < 100000) (hqb : q < 100000) (hl : ∀ k, k < 6 → (W.R k).length < 40000) (hq : 0 < p → (W.R 0).length + (W.R 1).length ≤ q) : zz_T X 5 p_Mill_even [zP 4 p q m, zP 9 0 0 s, zI sh] σ (fun r σ' => r = none ∧ SP σ' p m s (w_evn mk C (w_pay sh W)) ∧ Mg s m W.n σ σ' ∧ σ'.1 401 m = w_evnB C (w_pay sh W) ∧ σ'.1 402 m = w_evnO C (w_pay sh W) ∧ σ'.1 406 m = mk ∧ σ'.1 407 m = σ.1 407 m + w_payS sh W) := by
  refine zz_mk k_Mill_even o_Mill_even rfl rfl (Nat.le_of_ble_eq_true rfl) ?_
  show zz_G X 5 p_Mill_even 0 [zP 4 p q m, zP 9 0 0 s, zI sh, zU, zU] [] σ _
  have e9 : σ.1 910 s = W.S 9 := hSP.2.1 9 (by decide) (by decide)
  have e10 : σ.1 911 s = W.S 10 := hSP.2.1 10 (by decide) (by decide)
  have e0 : σ.1 701 (s + 1) = w_len 0 W := (hSP.1 0 (by decide)).1
  have e1 : σ.1 701 (s + 2) = w_len 1 W := (hSP.1 1 (by decide)).1
  have hl0 := hl 0 (by decide)
  have hl1 := hl 1 (by decide)
  have q0 : w_len 0 W = ((W.R 0).length : Nat) := rfl
  have q1 : w_len 1 W = ((W.R 1).length : Nat) := rfl
  have hlaid0 : (w_laid 0 1 (w_pay sh W)).length = (W.R 0).length + (W.R 1).length := w_laid_len 0 1 (w_pay sh W)
  have hlaid1 : (w_laid 1 0 (w_pay sh W)).length = (W.R 1).length + (W.R 0).length := w_laid_len 1 0 (w_pay sh W)
  have hm0 : 0 ≤ C * w_len 1 W ∧ C * w_len 1 W ≤ 400000 := by
    obtain ⟨c1, c2⟩ := hC
    have h5 : C = 0 ∨ C = 1 ∨ C = 2 ∨ C = 3 ∨ C = 4 := by omega
    rcases h5 with h5 | h5 | h5 | h5 | h5 <;> rw [h5] <;> omega
  have hm1 : 0 ≤ C * w_len 0 W ∧ C * w_len 0 W ≤ 400000 := by
    obtain ⟨c1, c2⟩ := hC
    have h5 : C = 0 ∨ C = 1 ∨ C = 2 ∨ C = 3 ∨ C = 4 := by omega
    rcases h5 with h5 | h5 | h5 | h5 | h5 <;> rw [h5] <;> omega
  have ev0 : zw (zw (C * w_len 1 W) + 1) = C * w_len 1 W + 1 := by rw [zw_id (x := C * w_len 1 W) (by omega) (by omega), zw_id (by omega) (by omega)]
  have ev1 : zw (zw (C * w_len 0 W) + 1) = C * w_len 0 W + 1 := by rw [zw_id (x := C * w_len 0 W) (by omega) (by omega), zw_id (by omega) (by omega)]
  have ef : zw (W.S 9 - min (W.S 9) sh) = W.S 9 - min (W.S 9) sh := zw_id (by omega) (by omega)
  have eb : zw (W.S 10 - min (W.S 10) sh) = W.S 10 - min (W.S 10) sh := zw_id (by omega) (by omega)
  have es : zw (σ.1 407 m + zw (min (W.S 9) sh + min (W.S 10) sh)) = σ.1 407 m + w_payS sh W := by
    unfold w_payS
    rw [zw_id (x := min (W.S 9) sh + min (W.S 10) sh) (by omega) (by omega), zw_id (by omega) (by omega)]
  obtain ⟨σp, hσp⟩ : ∃ σp, σp = zz_sf (zz_sf (zz_sf σ 910 s (W.S 9 - min (W.S 9) sh)) 911 s (W.S 10 - min (W.S 10) sh)) 407 m (σ.1 407 m + w_payS sh W) := ⟨_, rfl⟩
  have pp : SP σp p m s (w_pay sh W) := by rw [hσp]; exact hSP.s9.mf (by omega)
  have gp : Mg s m W.n σ σp := by rw [hσp]; exact (Mc.g ((Mc.st (by decide)).tr (Mc.st (by decide)) (Nat.le_refl _))).tr (Mg.mi (Or.inr (Or.inr (Or.inr rfl)))) (Nat.le_refl _)
  have r1 : σp.1 401 m = 0 := by rw [hσp, sf_f _ _ (by omega), sf_f _ _ (by omega), sf_f _ _ (by omega)]; exact h401
  have r2 : σp.1 402 m = 0 := by rw [hσp, sf_f _ _ (by omega), sf_f _ _ (by omega), sf_f _ _ (by omega)]; exact h402
  have r3 : σp.1 406 m = mk := by rw [hσp, sf_f _ _ (by omega), sf_f _ _ (by omega), sf_f _ _ (by omega)]; exact hmk
  have r4 : σp.1 407 m = σ.1 407 m + w_payS sh W := by rw [hσp, sf_h]
  have r5 : σp.1 405 m = C := by rw [hσp, sf_f _ _ (by omega), sf_f _ _ (by omega), sf_f _ _ (by omega)]; exact hC0
  have f0 : σp.1 701 (s + 1) = w_len 0 W := (pp.1 0 (by decide)).1
  have f1 : σp.1 701 (s + 2) = w_len 1 W := (pp.1 1 (by decide)).1
  refine zz_gsn 3 rfl ?_
  refine zz_mth rfl (Nat.le_of_ble_eq_true rfl) (Nat.le_of_ble_eq_true rfl) ?_
  refine zz_gsn 4 rfl ?_
  refine zz_mth rfl (Nat.le_of_ble_eq_true rfl) (Nat.le_of_ble_eq_true rfl) ?_
  refine zz_gsn 21 rfl ?_
  refine zz_sge (σ' := σp) (by
    rw [hσp, ← ef, ← eb, ← es, ← e9, ← e10]
    rfl) ?_
  refine zz_gsn 11 rfl ?_
  refine zz_br rfl (fun h41 => ?_) (fun h41 => ?_)
  · refine zz_gsn 11 rfl ?_
    refine zz_br rfl (fun h61 => ?_) (fun h61 => ?_)
    · refine zz_rv rfl rfl ?_
      have c0 : ¬ C * w_len 1 W + 1 < w_len 0 W := by rw [f0, r5, f1, ev0] at h41; exact Int.not_lt.mpr h41
      have c1 : ¬ C * w_len 0 W + 1 < w_len 1 W := by rw [f0, r5, f1, ev1] at h61; exact Int.not_lt.mpr h61
      have eE : w_evn mk C (w_pay sh W) = w_pay sh W := by
        show (if C * w_len 1 W + 1 < w_len 0 W then _ else if C * w_len 0 W + 1 < w_len 1 W then _ else _) = _
        rw [if_neg c0, if_neg c1]
      have eB : w_evnB C (w_pay sh W) = 0 := if_neg (fun z => z.elim c0 c1)
      have eO : w_evnO C (w_pay sh W) = 0 := if_neg (fun z => z.1.elim c0 c1)
      rw [eE, eB, eO]
      exact ⟨rfl, pp, gp, r1, r2, r3, r4⟩
    · refine zz_gsn 6 rfl ?_
      refine zz_cv (n := 4) rfl rfl (t_Mill_split (i := 1) (j := 0) (mk := mk) pp (Or.inr ⟨rfl, rfl⟩) r3 (fun z => by have := hp z; have c0 : ¬ C * w_len 1 W + 1 < w_len 0 W := (by rw [f0, r5, f1, ev0] at h41; exact Int.not_lt.mpr h41); have c1 : C * w_len 0 W + 1 < w_len 1 W := (by rw [f0, r5, f1, ev1] at h61; exact h61); rw [show w_evn mk C (w_pay sh W) = w_spl mk 1 0 (w_pay sh W) from (if_neg c0).trans (if_pos c1)] at this; exact this) hpb hqb (fun k hk => hl k hk) (fun z => by rw [hlaid1]; have := hq z; omega)) (Nat.le_of_ble_eq_true rfl) (Nat.le_of_ble_eq_true rfl) (Nat.le_of_ble_eq_true rfl) (fun r68 σ68 q68 => ?_)
      obtain ⟨rfl, p68, g68, b168, b268, b368, b468⟩ := q68
      refine zz_rv rfl rfl ?_
      have c0 : ¬ C * w_len 1 W + 1 < w_len 0 W := by rw [f0, r5, f1, ev0] at h41; exact Int.not_lt.mpr h41
      have c1 : C * w_len 0 W + 1 < w_len 1 W := by rw [f0, r5, f1, ev1] at h61; exact h61
      have eE : w_evn mk C (w_pay sh W) = w_spl mk 1 0 (w_pay sh W) := by
        show (if C * w_len 1 W + 1 < w_len 0 W then _ else if C * w_len 0 W + 1 < w_len 1 W then _ else _) = _
        rw [if_neg c0, if_pos c1]
      have eB : w_evnB C (w_pay sh W) = 1 := if_pos (Or.inr c1)
      have eO : w_evnO C (w_pay sh W) = if 0 < (w_pay sh W).S 9 ∨ 0 < (w_pay sh W).S 10 then 1 else 0 := by
        unfold w_evnO
        by_cases z : 0 < (w_pay sh W).S 9 ∨ 0 < (w_pay sh W).S 10
        · rw [if_pos z, if_pos ⟨Or.inr c1, z⟩]
        · rw [if_neg z, if_neg (fun y => z y.2)]
      rw [eE, eB, eO]
      exact ⟨rfl, p68, gp.tr g68 (Nat.le_refl _), b168, b268, b368, b468.trans r4⟩
  · refine zz_gsn 6 rfl ?_
    refine zz_cv (n := 4) rfl rfl (t_Mill_split (i := 0) (j := 1) (mk := mk) pp (Or.inl ⟨rfl, rfl⟩) r3 (fun z => by have := hp z; have c0 : C * w_len 1 W + 1 < w_len 0 W := (by rw [f0, r5, f1, ev0] at h41; exact h41); rw [show w_evn mk C (w_pay sh W) = w_spl mk 0 1 (w_pay sh W) from if_pos c0] at this; exact this) hpb hqb (fun k hk => hl k hk) (fun z => by rw [hlaid0]; exact hq z)) (Nat.le_of_ble_eq_true rfl) (Nat.le_of_ble_eq_true rfl) (Nat.le_of_ble_eq_true rfl) (fun r48 σ48 q48 => ?_)
    obtain ⟨rfl, p48, g48, b148, b248, b348, b448⟩ := q48
    refine zz_jp rfl ?_
    refine zz_rv rfl rfl ?_
    have c0 : C * w_len 1 W + 1 < w_len 0 W := by rw [f0, r5, f1, ev0] at h41; exact h41
    have eE : w_evn mk C (w_pay sh W) = w_spl mk 0 1 (w_pay sh W) := if_pos c0
    have eB : w_evnB C (w_pay sh W) = 1 := if_pos (Or.inl c0)
    have eO : w_evnO C (w_pay sh W) = if 0 < (w_pay sh W).S 9 ∨ 0 < (w_pay sh W).S 10 then 1 else 0 := by
      unfold w_evnO
      by_cases z : 0 < (w_pay sh W).S 9 ∨ 0 < (w_pay sh W).S 10
      · rw [if_pos z, if_pos ⟨Or.inl c0, z⟩]
      · rw [if_neg z, if_neg (fun y => z y.2)]
    rw [eE, eB, eO]
    exact ⟨rfl, p48, gp.tr g48 (Nat.le_refl _), b148, b248, b348, b448.trans r4⟩
end
section
/-! the mill: what a deed does itself -/
theorem w_chg0 (law mk x : Int) (W : zz_W) : w_chg law mk 0 x W = w_push mk 1 x (w_S 11 (W.S 11 + 1) W) := rfl
theorem w_chg2 (law mk x : Int) (W : zz_W) : w_chg law mk 2 x W = w_push mk 0 x (w_S 11 (W.S 11 + 1) W) := rfl
theorem w_chg1 {law : Int} (mk x : Int) (W : zz_W) (h : law = 1) : w_chg law mk 1 x W = w_pop (if (w_dis (w_S 11 (W.S 11 - 1) W)).R 0 = [] then 1 else 0) (w_dis (w_S 11 (W.S 11 - 1) W)) := by
  subst h
  rfl
theorem w_chg1n {law : Int} (mk x : Int) (W : zz_W) (h : law ≠ 1) : w_chg law mk 1 x W = w_pop (if W.R 0 = [] then 1 else 0) (w_S 11 (W.S 11 - 1) W) := by
  show w_pop (if (if law = 1 then w_dis (w_S 11 (W.S 11 - 1) W) else w_S 11 (W.S 11 - 1) W).R 0 = [] then 1 else 0) (if law = 1 then w_dis (w_S 11 (W.S 11 - 1) W) else w_S 11 (W.S 11 - 1) W) = _
  rw [if_neg h]
  rfl
theorem w_chg3 (law mk x : Int) (W : zz_W) : w_chg law mk 3 x W = w_pop (if W.R 1 = [] then 0 else 1) (w_S 11 (W.S 11 - 1) W) := rfl
theorem w_dis_n (W : zz_W) : (w_dis W).n = W.n := by
  unfold w_dis
  split
  · rfl
  · split <;> rfl
theorem w_dis_R (W : zz_W) {k : Nat} (hk : k ≠ 5) : (w_dis W).R k = W.R k := by
  unfold w_dis
  split
  · show (zu W.R 5 _) k = _
    exact zu_n _ _ hk
  · split <;> rfl
theorem w_dis_l5 (W : zz_W) : ((w_dis W).R 5).length ≤ (W.R 5).length := by
  unfold w_dis
  split
  · show ((zu W.R 5 (W.R 5).tail) 5).length ≤ _
    rw [zu_s, List.length_tail]
    omega
  · split <;> exact Nat.le_refl _
theorem SP.tot' {σ : zz_M} {p m s : Nat} {W : zz_W} (h : SP σ p m s W) {v w : Int} (e : v = w) : SP (zz_sf σ 906 s v) p m s (w_S 11 w W) := by
  subst e
  exact h.tot
theorem t_Mill_change {X : zz_X} {σ : zz_M} {p q m s : Nat} {W : zz_W} {law mk kind x : Int} (hSP : SP σ p m s W) (hmk : σ.1 406 m = mk) (hlaw : σ.1 404 m = law) (hkd : 0 ≤ kind ∧ kind ≤ 3) (hp : 0 < p → (w_chg law mk kind x W).n ≤ p) (hpb : p < 100000) (hl : ∀ k, k < 6 → (W.R k).length < 40000) (hS6 : -800000 < W.S 6 ∧ W.S 6 < 800000) (hS8 : -800000 < W.S 8 ∧ W.S 8 < 800000) (hS11 : -800000 < W.S 11 ∧ W.S 11 < 800000) : zz_T X 3 p_Mill_change [zP 4 p q m, zP 9 0 0 s, zI kind, zI x] σ (fun r σ' => r = none ∧ SP σ' p m s (w_chg law mk kind x W) ∧ Mc s m W.n σ σ') := by
  refine zz_mk k_Mill_change o_Mill_change rfl rfl (Nat.le_of_ble_eq_true rfl) ?_
  show zz_G X 3 p_Mill_change 0 [zP 4 p q m, zP 9 0 0 s, zI kind, zI x] [] σ _
  have e11 : σ.1 906 s = W.S 11 := hSP.2.2.1
  refine zz_gsn 4 rfl ?_
  refine zz_cs (n := 1) rfl rfl (t_TQ_isPutting) (Nat.le_of_ble_eq_true rfl) (Nat.le_of_ble_eq_true rfl) (Nat.le_of_ble_eq_true rfl) (fun r4 σ4 q4 => ?_)
  obtain ⟨rfl, n4, rfl, e4⟩ := q4
  refine zz_br rfl (fun h5 => ?_) (fun h5 => ?_)
  · refine zz_gsn 3 rfl ?_
    obtain ⟨σ1, hσ1⟩ : ∃ σ1, σ1 = zz_sf σ 906 s (zw (σ.1 906 s + (-1))) := ⟨_, rfl⟩
    have p1 : SP σ1 p m s (w_S 11 (W.S 11 - 1) W) := by rw [hσ1]; exact hSP.tot' (by rw [e11, zw_id (by omega) (by omega)]; omega)
    have g1 : Mc s m W.n σ σ1 := by rw [hσ1]; exact Mc.st (by decide)
    have m1 : σ1.1 406 m = mk := by rw [hσ1, sf_f _ _ (by omega)]; exact hmk
    have l1 : σ1.1 404 m = law := by rw [hσ1, sf_f _ _ (by omega)]; exact hlaw
    refine zz_sge (σ' := σ1) (by rw [hσ1]) ?_
    refine zz_gsn 1 rfl ?_
    have hk : kind = 1 ∨ kind = 3 := by omega
    rcases hk with hk | hk
    · refine zz_swI 1 31 rfl (by omega) rfl ?_
      refine zz_gsn 3 rfl ?_
      refine zz_br rfl (fun h34 => ?_) (fun h34 => ?_)
      · refine zz_gsn 5 rfl ?_
        refine zz_br rfl (fun h43 => ?_) (fun h43 => ?_)
        · refine zz_gsn 2 rfl ?_
          refine zz_cv (n := 2) rfl rfl (t_Cells_dropFirst) (Nat.le_of_ble_eq_true rfl) (Nat.le_of_ble_eq_true rfl) (Nat.le_of_ble_eq_true rfl) (fun r49 σ49 q49 => ?_)
          obtain ⟨rfl, q49⟩ := q49
          obtain ⟨p49, g49⟩ := sp_drop (k := 1) p1 (by decide) (by have := hl 1 (by decide); show (W.R 1).length < _; omega) q49
          refine zz_jp rfl ?_
          refine zz_rv rfl rfl ?_
          rw [hk, w_chg1n mk x W (fun z => h34 (l1.trans z))]
          have c0 : W.R 0 = [] := by have z := (p1.1 0 (by decide)).1; exact w_len_0.mp (Int.le_antisymm (z ▸ h43) (Int.natCast_nonneg _))
          rw [if_pos c0]
          exact ⟨rfl, p49, g1.tr g49 (Nat.le_refl _)⟩
        · refine zz_gsn 2 rfl ?_
          refine zz_jp rfl ?_
          refine zz_cv (n := 2) rfl rfl (t_Cells_dropFirst) (Nat.le_of_ble_eq_true rfl) (Nat.le_of_ble_eq_true rfl) (Nat.le_of_ble_eq_true rfl) (fun r49 σ49 q49 => ?_)
          obtain ⟨rfl, q49⟩ := q49
          obtain ⟨p49, g49⟩ := sp_drop (k := 0) p1 (by decide) (by have := hl 0 (by decide); show (W.R 0).length < _; omega) q49
          refine zz_jp rfl ?_
          refine zz_rv rfl rfl ?_
          rw [hk, w_chg1n mk x W (fun z => h34 (l1.trans z))]
          have c0 : ¬ W.R 0 = [] := fun y => by have z := (p1.1 0 (by decide)).1; have z2 := w_len_0.mpr y; exact absurd (z.trans z2) (Int.ne_of_gt h43)
          rw [if_neg c0]
          exact ⟨rfl, p49, g1.tr g49 (Nat.le_refl _)⟩
      · refine zz_gsn 2 rfl ?_
        refine zz_cv (n := 2) rfl rfl (t_Mill_disown p1 (by have := hl 5 (by decide); show (W.R 5).length < _; omega) (by show _ < W.S 6 ∧ W.S 6 < _; omega) (by show _ < W.S 8 ∧ W.S 8 < _; omega)) (Nat.le_of_ble_eq_true rfl) (Nat.le_of_ble_eq_true rfl) (Nat.le_of_ble_eq_true rfl) (fun r37 σ37 q37 => ?_)
        obtain ⟨rfl, p37, g37⟩ := q37
        refine zz_gsn 5 rfl ?_
        refine zz_br rfl (fun h43 => ?_) (fun h43 => ?_)
        · refine zz_gsn 2 rfl ?_
          refine zz_cv (n := 2) rfl rfl (t_Cells_dropFirst) (Nat.le_of_ble_eq_true rfl) (Nat.le_of_ble_eq_true rfl) (Nat.le_of_ble_eq_true rfl) (fun r49 σ49 q49 => ?_)
          obtain ⟨rfl, q49⟩ := q49
          obtain ⟨p49, g49⟩ := sp_drop (k := 1) p37 (by decide) (by rw [w_dis_R _ (by decide)]; have := hl 1 (by decide); show (W.R 1).length < _; omega) q49
          refine zz_jp rfl ?_
          refine zz_rv rfl rfl ?_
          rw [hk, w_chg1 mk x W (l1.symm.trans h34)]
          have c0 : (w_dis (w_S 11 (W.S 11 - 1) W)).R 0 = [] := by have z := (p37.1 0 (by decide)).1; exact w_len_0.mp (Int.le_antisymm (z ▸ h43) (Int.natCast_nonneg _))
          rw [if_pos c0]
          exact ⟨rfl, p49, (g1.tr g37 (Nat.le_refl _)).tr g49 (by rw [w_dis_n]; exact Nat.le_refl _)⟩
        · refine zz_gsn 2 rfl ?_
          refine zz_jp rfl ?_
          refine zz_cv (n := 2) rfl rfl (t_Cells_dropFirst) (Nat.le_of_ble_eq_true rfl) (Nat.le_of_ble_eq_true rfl) (Nat.le_of_ble_eq_true rfl) (fun r49 σ49 q49 => ?_)
          obtain ⟨rfl, q49⟩ := q49
          obtain ⟨p49, g49⟩ := sp_drop (k := 0) p37 (by decide) (by rw [w_dis_R _ (by decide)]; have := hl 0 (by decide); show (W.R 0).length < _; omega) q49
          refine zz_jp rfl ?_
          refine zz_rv rfl rfl ?_
          rw [hk, w_chg1 mk x W (l1.symm.trans h34)]
          have c0 : ¬ (w_dis (w_S 11 (W.S 11 - 1) W)).R 0 = [] := fun y => by have z := (p37.1 0 (by decide)).1; have z2 := w_len_0.mpr y; exact absurd (z.trans z2) (Int.ne_of_gt h43)
          rw [if_neg c0]
          exact ⟨rfl, p49, (g1.tr g37 (Nat.le_refl _)).tr g49 (by rw [w_dis_n]; exact Nat.le_refl _)⟩
    · refine zz_swO 51 rfl (by show kind < 0 ∨ 0 + 4 ≤ kind + 1; omega) rfl ?_
      refine zz_gsn 5 rfl ?_
      refine zz_br rfl (fun h56 => ?_) (fun h56 => ?_)
      · refine zz_gsn 2 rfl ?_
        refine zz_cv (n := 2) rfl rfl (t_Cells_dropFirst) (Nat.le_of_ble_eq_true rfl) (Nat.le_of_ble_eq_true rfl) (Nat.le_of_ble_eq_true rfl) (fun r62 σ62 q62 => ?_)
        obtain ⟨rfl, q62⟩ := q62
        obtain ⟨p62, g62⟩ := sp_drop (k := 0) p1 (by decide) (by have := hl 0 (by decide); show (W.R 0).length < _; omega) q62
        refine zz_rv rfl rfl ?_
        rw [hk, w_chg3]
        have c0 : W.R 1 = [] := by have z := (p1.1 1 (by decide)).1; exact w_len_0.mp (Int.le_antisymm (z ▸ h56) (Int.natCast_nonneg _))
        rw [if_pos c0]
        exact ⟨rfl, p62, g1.tr g62 (Nat.le_refl _)⟩
      · refine zz_gsn 2 rfl ?_
        refine zz_jp rfl ?_
        refine zz_cv (n := 2) rfl rfl (t_Cells_dropFirst) (Nat.le_of_ble_eq_true rfl) (Nat.le_of_ble_eq_true rfl) (Nat.le_of_ble_eq_true rfl) (fun r62 σ62 q62 => ?_)
        obtain ⟨rfl, q62⟩ := q62
        obtain ⟨p62, g62⟩ := sp_drop (k := 1) p1 (by decide) (by have := hl 1 (by decide); show (W.R 1).length < _; omega) q62
        refine zz_rv rfl rfl ?_
        rw [hk, w_chg3]
        have c0 : ¬ W.R 1 = [] := fun y => by have z := (p1.1 1 (by decide)).1; have z2 := w_len_0.mpr y; exact absurd (z.trans z2) (Int.ne_of_gt h56)
        rw [if_neg c0]
        exact ⟨rfl, p62, g1.tr g62 (Nat.le_refl _)⟩
  · refine zz_gsn 1 rfl ?_
    refine zz_jp rfl ?_
    refine zz_gsn 2 rfl ?_
    obtain ⟨σ1, hσ1⟩ : ∃ σ1, σ1 = zz_sf σ 906 s (zw (σ.1 906 s + 1)) := ⟨_, rfl⟩
    have p1 : SP σ1 p m s (w_S 11 (W.S 11 + 1) W) := by rw [hσ1]; exact hSP.tot' (by rw [e11, zw_id (by omega) (by omega)])
    have g1 : Mc s m W.n σ σ1 := by rw [hσ1]; exact Mc.st (by decide)
    have m1 : σ1.1 406 m = mk := by rw [hσ1, sf_f _ _ (by omega)]; exact hmk
    have l1 : σ1.1 404 m = law := by rw [hσ1, sf_f _ _ (by omega)]; exact hlaw
    refine zz_sge (σ' := σ1) (by rw [hσ1]) ?_
    refine zz_gsn 1 rfl ?_
    have hk : kind = 0 ∨ kind = 2 := by omega
    rcases hk with hk | hk
    · refine zz_swI 0 13 rfl (by omega) rfl ?_
      refine zz_gsn 7 rfl ?_
      refine zz_cv (n := 4) rfl rfl (t_Cells_add) (Nat.le_of_ble_eq_true rfl) (Nat.le_of_ble_eq_true rfl) (Nat.le_of_ble_eq_true rfl) (fun r20 σ20 q20 => ?_)
      obtain ⟨rfl, q20⟩ := q20
      have hn : 0 < p → (w_S 11 (W.S 11 + 1) W).n < p := fun z => by have z2 := hp z; rw [hk] at z2; exact z2
      obtain ⟨p20, g20⟩ := sp_add (y := x) (k := 1) p1 (by decide) hn hpb (by have := hl 1 (by decide); show (W.R 1).length < _; omega) (fun _ => rfl) q20
      rw [m1] at p20
      refine zz_jp rfl ?_
      refine zz_rv rfl rfl ?_
      rw [hk, w_chg0]
      exact ⟨rfl, p20, g1.tr g20 (Nat.le_refl _)⟩
    · refine zz_swI 2 22 rfl (by omega) rfl ?_
      refine zz_gsn 7 rfl ?_
      refine zz_cv (n := 4) rfl rfl (t_Cells_add) (Nat.le_of_ble_eq_true rfl) (Nat.le_of_ble_eq_true rfl) (Nat.le_of_ble_eq_true rfl) (fun r29 σ29 q29 => ?_)
      obtain ⟨rfl, q29⟩ := q29
      have hn : 0 < p → (w_S 11 (W.S 11 + 1) W).n < p := fun z => by have z2 := hp z; rw [hk] at z2; exact z2
      obtain ⟨p29, g29⟩ := sp_add (y := x) (k := 0) p1 (by decide) hn hpb (by have := hl 0 (by decide); show (W.R 0).length < _; omega) (fun _ => rfl) q29
      rw [m1] at p29
      refine zz_jp rfl ?_
      refine zz_rv rfl rfl ?_
      rw [hk, w_chg2]
      exact ⟨rfl, p29, g1.tr g29 (Nat.le_refl _)⟩
end
section
/-! a state becomes another one -/
/-- a state's copy, its first n rows being copied -/
def CP (n s t : Nat) (σ0 σ : zz_M) : Prop := (∀ k, k < n → σ.1 700 (s + 1 + k) = σ0.1 700 (t + 1 + k) ∧ σ.1 701 (s + 1 + k) = σ0.1 701 (t + 1 + k)) ∧ (∀ f a, ¬ ((f = 700 ∨ f = 701) ∧ s < a ∧ a < s + 1 + n) → σ.1 f a = σ0.1 f a) ∧ σ.2 = σ0.2
def zz_dj (s t : Nat) : Prop := s + 7 ≤ t ∨ t + 7 ≤ s
theorem CP.z {s t : Nat} {σ : zz_M} : CP 0 s t σ σ := ⟨fun k hk => absurd hk (Nat.not_lt_zero k), fun _ _ _ => rfl, rfl⟩
theorem CP.s {n s t : Nat} {σ0 σ σ' : zz_M} (h : CP n s t σ0 σ) (hn : n < 6) (hd : zz_dj s t) (e : σ' = zz_sf (zz_sf σ 700 (s + 1 + n) (σ.1 700 (t + 1 + n))) 701 (s + 1 + n) (σ.1 701 (t + 1 + n))) : CP (n + 1) s t σ0 σ' := by
  subst e
  obtain ⟨h1, h2, h3⟩ := h
  have a0 : σ.1 700 (t + 1 + n) = σ0.1 700 (t + 1 + n) := h2 _ _ (by unfold zz_dj at hd; omega)
  have a1 : σ.1 701 (t + 1 + n) = σ0.1 701 (t + 1 + n) := h2 _ _ (by unfold zz_dj at hd; omega)
  refine ⟨fun k hk => ?_, fun f a q => ?_, h3⟩
  · by_cases e : k = n
    · subst e
      rw [sf_f _ _ (by omega), sf_h, sf_h]
      exact ⟨a0, a1⟩
    · rw [sf_a _ _ (by omega), sf_a _ _ (by omega), sf_a _ _ (by omega), sf_a _ _ (by omega)]
      exact h1 k (by omega)
  · rw [sf_1, if_neg (by omega), sf_1, if_neg (by omega)]
    exact h2 f a (by omega)
def zz_cps (s t : Nat) (σ : zz_M) : zz_M := zz_sf (zz_sf (zz_sf (zz_sf (zz_sf (zz_sf σ 906 s (σ.1 906 t)) 907 s (σ.1 907 t)) 908 s (σ.1 908 t)) 909 s (σ.1 909 t)) 910 s (σ.1 910 t)) 911 s (σ.1 911 t)
theorem zz_cps_f (s t : Nat) (σ : zz_M) {f a : Nat} (h : ¬ (a = s ∧ 906 ≤ f ∧ f ≤ 911)) : (zz_cps s t σ).1 f a = σ.1 f a := by
  unfold zz_cps
  rw [sf_1, if_neg (by omega), sf_1, if_neg (by omega), sf_1, if_neg (by omega), sf_1, if_neg (by omega), sf_1, if_neg (by omega), sf_1, if_neg (by omega)]
theorem zz_cps_h (s t : Nat) (σ : zz_M) {f : Nat} (h : 906 ≤ f ∧ f ≤ 911) : (zz_cps s t σ).1 f s = σ.1 f t := by
  have hf : f = 906 ∨ f = 907 ∨ f = 908 ∨ f = 909 ∨ f = 910 ∨ f = 911 := by omega
  unfold zz_cps
  rcases hf with e | e | e | e | e | e <;> subst e
  · rw [sf_f _ _ (by decide), sf_f _ _ (by decide), sf_f _ _ (by decide), sf_f _ _ (by decide), sf_f _ _ (by decide), sf_h]
  · rw [sf_f _ _ (by decide), sf_f _ _ (by decide), sf_f _ _ (by decide), sf_f _ _ (by decide), sf_h]
  · rw [sf_f _ _ (by decide), sf_f _ _ (by decide), sf_f _ _ (by decide), sf_h]
  · rw [sf_f _ _ (by decide), sf_f _ _ (by decide), sf_h]
  · rw [sf_f _ _ (by decide), sf_h]
  · rw [sf_h]
theorem CP.sp {s t p m : Nat} {σ0 σ : zz_M} {W : zz_W} (h : CP 6 s t σ0 σ) (hd : zz_dj s t) (hm : 0 < p → m + 6 < s ∨ s + 6 < m) (hS : SP σ0 p m t W) : SP (zz_cps s t σ) p m s W := by
  obtain ⟨h1, h2, h3⟩ := h
  obtain ⟨s1, s2, s3, s4, s5⟩ := hS
  have e2 : (zz_cps s t σ).2 = σ0.2 := h3
  unfold zz_dj at hd
  refine ⟨fun k hk => ?_, fun j a1 a2 => ?_, ?_, fun hp => ?_, s5⟩
  · rw [zz_cps_f _ _ _ (by omega), zz_cps_f _ _ _ (by omega), (h1 k hk).1, (h1 k hk).2, e2]
    exact s1 k hk
  · rw [zz_cps_h _ _ _ (by omega), h2 _ _ (by omega)]
    exact s2 j a1 a2
  · rw [zz_cps_h _ _ _ (by omega), h2 _ _ (by omega)]
    exact s3
  · rw [zz_cps_f _ _ _ (by omega), h2 _ _ (by omega), e2]
    exact s4 hp
/-- what a state has of its own -/
def zz_c1s (s f a : Nat) : Prop := (s < a ∧ a < s + 7 ∧ (f = 700 ∨ f = 701)) ∨ (a = s ∧ 906 ≤ f ∧ f ≤ 911)
def Ms (s : Nat) (σ σ' : zz_M) : Prop := (∀ f a, ¬ zz_c1s s f a → σ'.1 f a = σ.1 f a) ∧ σ'.2 = σ.2
theorem CP.ms {s t : Nat} {σ0 σ : zz_M} (h : CP 6 s t σ0 σ) : Ms s σ0 (zz_cps s t σ) := ⟨fun f a q => by
  unfold zz_c1s at q
  rw [zz_cps_f _ _ _ (by omega)]
  exact h.2.1 f a (by omega), h.2.2⟩
theorem SP.z {σ : zz_M} {p m m' s : Nat} {W : zz_W} (h : SP σ p m s W) : SP σ 0 m' s W := ⟨fun k hk => ⟨(h.1 k hk).1, fun z => absurd z (Nat.lt_irrefl 0)⟩, h.2.1, h.2.2.1, fun z => absurd z (Nat.lt_irrefl 0), h.2.2.2.2⟩
theorem t_State_become {X : zz_X} {σ : zz_M} {s t : Nat} (hd : zz_dj s t) : zz_T X 2 p_State_become [zP 9 0 0 s, zP 9 0 0 t] σ (fun r σ' => r = none ∧ (∀ p m W, (0 < p → m + 6 < s ∨ s + 6 < m) → SP σ p m t W → SP σ' p m s W) ∧ Ms s σ σ') := by
  refine zz_mk k_State_become o_State_become rfl rfl (Nat.le_of_ble_eq_true rfl) ?_
  show zz_G X 2 p_State_become 0 [zP 9 0 0 s, zP 9 0 0 t] [] σ _
  refine zz_gsn 4 rfl ?_
  refine zz_cv (n := 2) rfl rfl (t_Row_become) (Nat.le_of_ble_eq_true rfl) (Nat.le_of_ble_eq_true rfl) (Nat.le_of_ble_eq_true rfl) (fun r4 σ4 q4 => ?_)
  obtain ⟨rfl, q4⟩ := q4
  have c4 : CP 1 s t σ σ4 := CP.z.s (by decide) hd q4
  clear q4
  refine zz_gsn 4 rfl ?_
  refine zz_cv (n := 2) rfl rfl (t_Row_become) (Nat.le_of_ble_eq_true rfl) (Nat.le_of_ble_eq_true rfl) (Nat.le_of_ble_eq_true rfl) (fun r9 σ9 q9 => ?_)
  obtain ⟨rfl, q9⟩ := q9
  have c9 : CP 2 s t σ σ9 := c4.s (by decide) hd q9
  clear q9
  refine zz_gsn 4 rfl ?_
  refine zz_cv (n := 2) rfl rfl (t_Row_become) (Nat.le_of_ble_eq_true rfl) (Nat.le_of_ble_eq_true rfl) (Nat.le_of_ble_eq_true rfl) (fun r14 σ14 q14 => ?_)
  obtain ⟨rfl, q14⟩ := q14
  have c14 : CP 3 s t σ σ14 := c9.s (by decide) hd q14
  clear q14
  refine zz_gsn 4 rfl ?_
  refine zz_cv (n := 2) rfl rfl (t_Row_become) (Nat.le_of_ble_eq_true rfl) (Nat.le_of_ble_eq_true rfl) (Nat.le_of_ble_eq_true rfl) (fun r19 σ19 q19 => ?_)
  obtain ⟨rfl, q19⟩ := q19
  have c19 : CP 4 s t σ σ19 := c14.s (by decide) hd q19
  clear q19
  refine zz_gsn 4 rfl ?_
  refine zz_cv (n := 2) rfl rfl (t_Row_become) (Nat.le_of_ble_eq_true rfl) (Nat.le_of_ble_eq_true rfl) (Nat.le_of_ble_eq_true rfl) (fun r24 σ24 q24 => ?_)
  obtain ⟨rfl, q24⟩ := q24
  have c24 : CP 5 s t σ σ24 := c19.s (by decide) hd q24
  clear q24
  refine zz_gsn 4 rfl ?_
  refine zz_cv (n := 2) rfl rfl (t_Row_become) (Nat.le_of_ble_eq_true rfl) (Nat.le_of_ble_eq_true rfl) (Nat.le_of_ble_eq_true rfl) (fun r29 σ29 q29 => ?_)
  obtain ⟨rfl, q29⟩ := q29
  have c29 : CP 6 s t σ σ29 := c24.s (by decide) hd q29
  clear q29
  refine zz_gsn 24 rfl ?_
  refine zz_rv rfl rfl ?_
  show none = none ∧ (∀ p m W, (0 < p → m + 6 < s ∨ s + 6 < m) → SP σ p m t W → SP (zz_cps s t σ29) p m s W) ∧ Ms s σ (zz_cps s t σ29)
  exact ⟨rfl, fun p m W hm hS => c29.sp hd hm hS, c29.ms⟩
theorem t_Mill_obey {X : zz_X} {σ : zz_M} {p q m : Nat} {l c : Int}  : zz_T X 1 p_Mill_obey [zP 4 p q m, zI l, zI c] σ (fun r σ' => r = none ∧ σ' = zz_sf (zz_sf σ 404 m l) 405 m c) := by
  refine zz_mk k_Mill_obey o_Mill_obey rfl rfl (Nat.le_of_ble_eq_true rfl) ?_
  show zz_G X 1 p_Mill_obey 0 [zP 4 p q m, zI l, zI c] [] σ _
  refine zz_gsn 6 rfl ?_
  refine zz_rv rfl rfl ?_
  exact ⟨rfl, rfl⟩
end
section
/-! the mill: a deed -/
theorem w_push_l {mk x : Int} {j k : Nat} {W : zz_W} : ((w_push mk j x W).R k).length ≤ (W.R k).length + 1 := by
  show ((zu W.R j (W.n :: W.R j)) k).length ≤ _
  by_cases e : k = j
  · subst e
    rw [zu_s, List.length_cons]
    omega
  · rw [zu_n _ _ e]
    omega
theorem w_pop_l {j k : Nat} {W : zz_W} : ((w_pop j W).R k).length ≤ (W.R k).length := by
  show ((zu W.R j (W.R j).tail) k).length ≤ _
  by_cases e : k = j
  · subst e
    rw [zu_s, List.length_tail]
    omega
  · rw [zu_n _ _ e]
    omega
theorem w_dis_S (W : zz_W) : ((w_dis W).S 6 = W.S 6 - 1) ∧ ((w_dis W).S 8 = W.S 8 ∨ (w_dis W).S 8 = W.S 8 - 1) ∧ (w_dis W).S 9 = W.S 9 ∧ (w_dis W).S 10 = W.S 10 ∧ (w_dis W).S 11 = W.S 11 := by
  unfold w_dis
  split
  · exact ⟨rfl, Or.inl rfl, rfl, rfl, rfl⟩
  · split
    · exact ⟨rfl, Or.inr rfl, rfl, rfl, rfl⟩
    · exact ⟨rfl, Or.inl rfl, rfl, rfl, rfl⟩
theorem w_dis_l (W : zz_W) (k : Nat) : ((w_dis W).R k).length ≤ (W.R k).length := by
  by_cases e : k = 5
  · subst e
    exact w_dis_l5 W
  · rw [w_dis_R W e]
    exact Nat.le_refl _
theorem w_chg_B (law mk kind x : Int) (W : zz_W) (hk : 0 ≤ kind ∧ kind ≤ 3) :
    (∀ k, ((w_chg law mk kind x W).R k).length ≤ (W.R k).length + 1)
    ∧ ((w_chg law mk kind x W).S 6 = W.S 6 ∨ (w_chg law mk kind x W).S 6 = W.S 6 - 1)
    ∧ ((w_chg law mk kind x W).S 8 = W.S 8 ∨ (w_chg law mk kind x W).S 8 = W.S 8 - 1)
    ∧ (w_chg law mk kind x W).S 9 = W.S 9
    ∧ (w_chg law mk kind x W).S 10 = W.S 10
    ∧ (w_chg law mk kind x W).S 11 = W.S 11 + (if kind = 0 ∨ kind = 2 then 1 else -1)
    ∧ W.n ≤ (w_chg law mk kind x W).n := by
  have h : kind = 0 ∨ kind = 1 ∨ kind = 2 ∨ kind = 3 := by omega
  rcases h with h | h | h | h <;> subst h
  · exact ⟨fun k => w_push_l, Or.inl rfl, Or.inl rfl, rfl, rfl, rfl, Nat.le_succ _⟩
  · by_cases hl : law = 1
    · have hd := w_dis_S (w_S 11 (W.S 11 - 1) W)
      refine ⟨fun k => ?_, ?_, ?_, ?_, ?_, ?_, ?_⟩ <;> rw [w_chg1 mk x W hl]
      · exact Nat.le_succ_of_le (Nat.le_trans w_pop_l (w_dis_l _ k))
      · exact Or.inr hd.1
      · exact hd.2.1
      · exact hd.2.2.1
      · exact hd.2.2.2.1
      · exact hd.2.2.2.2
      · exact Nat.le_of_eq (w_dis_n (w_S 11 (W.S 11 - 1) W)).symm
    · refine ⟨fun k => ?_, ?_, ?_, ?_, ?_, ?_, ?_⟩ <;> rw [w_chg1n mk x W hl]
      · exact Nat.le_succ_of_le w_pop_l
      · exact Or.inl rfl
      · exact Or.inl rfl
      · rfl
      · rfl
      · rfl
      · exact Nat.le_refl _
  · exact ⟨fun k => w_push_l, Or.inl rfl, Or.inl rfl, rfl, rfl, rfl, Nat.le_succ _⟩
  · exact ⟨fun k => Nat.le_succ_of_le w_pop_l, Or.inl rfl, Or.inl rfl, rfl, rfl, rfl, Nat.le_refl _⟩
theorem w_all_le (mk : Int) (W : zz_W) : W.n ≤ (w_all mk W).n := by
  unfold w_all
  split
  · exact w_mvs_le mk 1 0 _ W
  · exact Nat.le_refl _
theorem w_one_le (mk : Int) (W : zz_W) : W.n ≤ (w_one mk W).n := by
  unfold w_one
  rw [w_fin_n]
  exact Nat.le_trans (Nat.le_of_eq (w_b_n W).symm) (Nat.le_trans (w_trn_le mk _) (w_trn_le mk _))
theorem w_evn_le (mk C sh : Int) (W : zz_W) : W.n ≤ (w_evn mk C (w_pay sh W)).n := by
  unfold w_evn
  split
  · rw [w_spl_n]
    exact Nat.le_add_right _ _
  · split
    · rw [w_spl_n]
      exact Nat.le_add_right _ _
    · exact Nat.le_refl _
theorem w_deed_0 {law C mk kind x : Int} {W : zz_W} (h : law = 0) : w_deed law C mk kind x W = w_all mk (w_chg law mk kind x W) ∧ w_steps law C mk kind x W = 1 + w_allS (w_chg law mk kind x W) ∧ w_begun law C mk kind x W = w_allB (w_chg law mk kind x W) ∧ w_over law C mk kind x W = 0 := by
  subst h
  exact ⟨rfl, rfl, rfl, rfl⟩
theorem w_deed_1 {law C mk kind x : Int} {W : zz_W} (h : law = 1) : w_deed law C mk kind x W = w_one mk (w_chg law mk kind x W) ∧ w_steps law C mk kind x W = 1 + w_oneS mk (w_chg law mk kind x W) ∧ w_begun law C mk kind x W = w_oneB (w_chg law mk kind x W) ∧ w_over law C mk kind x W = w_oneO (w_chg law mk kind x W) := by
  subst h
  exact ⟨rfl, rfl, rfl, rfl⟩
theorem w_deed_2 {law C mk kind x : Int} {W : zz_W} (h : law ≠ 0) (h1 : law ≠ 1) : w_deed law C mk kind x W = w_evn mk C (w_pay (w_sh kind) (w_chg law mk kind x W)) ∧ w_steps law C mk kind x W = 1 + w_payS (w_sh kind) (w_chg law mk kind x W) ∧ w_begun law C mk kind x W = w_evnB C (w_pay (w_sh kind) (w_chg law mk kind x W)) ∧ w_over law C mk kind x W = w_evnO C (w_pay (w_sh kind) (w_chg law mk kind x W)) := by
  refine ⟨(if_neg h).trans (if_neg h1), ?_, (if_neg h).trans (if_neg h1), (if_neg h).trans (if_neg h1)⟩
  show 1 + (if law = 0 then _ else if law = 1 then _ else _) = _
  rw [if_neg h, if_neg h1]
theorem w_deed_le (law C mk kind x : Int) (W : zz_W) : (w_chg law mk kind x W).n ≤ (w_deed law C mk kind x W).n := by
  by_cases h : law = 0
  · rw [(w_deed_0 h).1]
    exact w_all_le mk _
  · by_cases h1 : law = 1
    · rw [(w_deed_1 h1).1]
      exact w_one_le mk _
    · rw [(w_deed_2 h h1).1]
      exact w_evn_le mk C _ _
theorem t_Mill_perform {X : zz_X} {σ : zz_M} {p q m s : Nat} {W : zz_W} {law C mk kind x : Int} (hSP : SP σ p m s W) (hlaw : σ.1 404 m = law) (hC0 : σ.1 405 m = C) (hC : 0 ≤ C ∧ C ≤ 4) (hkd : 0 ≤ kind ∧ kind ≤ 3) (hp : 0 < p → (w_deed law C mk kind x W).n ≤ p) (hpb : p < 100000) (hqb : q < 100000) (hl : ∀ k, k < 6 → (W.R k).length < 30000) (hS6 : -700000 < W.S 6 ∧ W.S 6 < 700000) (hS8 : -700000 < W.S 8 ∧ W.S 8 < 700000) (hS9 : 0 ≤ W.S 9 ∧ W.S 9 < 700000) (hS10 : 0 ≤ W.S 10 ∧ W.S 10 < 700000) (hS11 : -700000 < W.S 11 ∧ W.S 11 < 700000) (hq : 0 < p → ((w_chg law mk kind x W).R 0).length + ((w_chg law mk kind x W).R 1).length ≤ q) : zz_T X 6 p_Mill_perform [zP 4 p q m, zP 9 0 0 s, zI kind, zI x, zI mk] σ (fun r σ' => r = some (zI (w_steps law C mk kind x W)) ∧ SP σ' p m s (w_deed law C mk kind x W) ∧ Mg s m W.n σ σ' ∧ σ'.1 401 m = w_begun law C mk kind x W ∧ σ'.1 402 m = w_over law C mk kind x W) := by
  refine zz_mk k_Mill_perform o_Mill_perform rfl rfl (Nat.le_of_ble_eq_true rfl) ?_
  show zz_G X 6 p_Mill_perform 0 [zP 4 p q m, zP 9 0 0 s, zI kind, zI x, zI mk] [] σ _
  obtain ⟨bl, b6, b8, b9, b10, b11, hn1⟩ := w_chg_B law mk kind x W hkd
  obtain ⟨W1, hW1⟩ : ∃ W1, W1 = w_chg law mk kind x W := ⟨_, rfl⟩
  have hl1 : ∀ k, k < 6 → (W1.R k).length < 40000 := fun k hk => by have z := bl k; rw [← hW1] at z; have := hl k hk; omega
  have hle := w_deed_le law C mk kind x W
  rw [← hW1] at b6 b8 b9 b10 hn1 hq hle
  obtain ⟨σ1, hσ1⟩ : ∃ σ1, σ1 = zz_sf (zz_sf (zz_sf (zz_sf σ 406 m mk) 407 m 1) 401 m 0) 402 m 0 := ⟨_, rfl⟩
  have p1 : SP σ1 p m s W := by rw [hσ1]; exact (((hSP.mf (by omega)).mf (by omega)).mf (by omega)).mf (by omega)
  have g1 : Mg s m W.n σ σ1 := by rw [hσ1]; exact (((Mg.mi (Or.inr (Or.inr (Or.inl rfl)))).tr (Mg.mi (Or.inr (Or.inr (Or.inr rfl)))) (Nat.le_refl _)).tr (Mg.mi (Or.inl rfl)) (Nat.le_refl _)).tr (Mg.mi (Or.inr (Or.inl rfl))) (Nat.le_refl _)
  have r1 : σ1.1 401 m = 0 := by rw [hσ1, sf_f _ _ (by omega), sf_h]
  have r2 : σ1.1 402 m = 0 := by rw [hσ1, sf_h]
  have r3 : σ1.1 406 m = mk := by rw [hσ1, sf_f _ _ (by omega), sf_f _ _ (by omega), sf_f _ _ (by omega), sf_h]
  have r4 : σ1.1 407 m = 1 := by rw [hσ1, sf_f _ _ (by omega), sf_f _ _ (by omega), sf_h]
  have r5 : σ1.1 404 m = law := by rw [hσ1, sf_f _ _ (by omega), sf_f _ _ (by omega), sf_f _ _ (by omega), sf_f _ _ (by omega)]; exact hlaw
  have r6 : σ1.1 405 m = C := by rw [hσ1, sf_f _ _ (by omega), sf_f _ _ (by omega), sf_f _ _ (by omega), sf_f _ _ (by omega)]; exact hC0
  refine zz_gsn 8 rfl ?_
  refine zz_ptz rfl (by first | exact Or.inl rfl | exact Or.inr rfl | omega) ?_
  refine zz_gsn 2 rfl ?_
  refine zz_ptz rfl (by first | exact Or.inl rfl | exact Or.inr rfl | omega) ?_
  refine zz_sge (σ' := σ1) (by rw [hσ1]) ?_
  refine zz_gsn 4 rfl ?_
  refine zz_cv (n := 4) rfl rfl (t_Mill_change p1 r3 r5 hkd (fun z => by have z2 := hp z; rw [← hW1]; omega) hpb (fun k hk => by have := hl k hk; omega) (by omega) (by omega) (by omega)) (Nat.le_of_ble_eq_true rfl) (Nat.le_of_ble_eq_true rfl) (Nat.le_of_ble_eq_true rfl) (fun r16 σ16 q16 => ?_)
  obtain ⟨rfl, p16, g16⟩ := q16
  rw [← hW1] at p16
  have x1 : σ16.1 401 m = 0 := (g16.m (by omega)).trans r1
  have x2 : σ16.1 402 m = 0 := (g16.m (by omega)).trans r2
  have x3 : σ16.1 406 m = mk := (g16.m (by omega)).trans r3
  have x4 : σ16.1 407 m = 1 := (g16.m (by omega)).trans r4
  have x5 : σ16.1 404 m = law := (g16.m (by omega)).trans r5
  have x6 : σ16.1 405 m = C := (g16.m (by omega)).trans r6
  have g2 := g1.tr g16.g (Nat.le_refl _)
  refine zz_gsn 2 rfl ?_
  refine zz_br rfl (fun h19 => ?_) (fun h19 => ?_)
  · refine zz_gsn 3 rfl ?_
    refine zz_br rfl (fun h27 => ?_) (fun h27 => ?_)
    · refine zz_gsn 3 rfl ?_
      refine zz_cs (n := 1) rfl rfl (t_TQ_isPutting) (Nat.le_of_ble_eq_true rfl) (Nat.le_of_ble_eq_true rfl) (Nat.le_of_ble_eq_true rfl) (fun r35 σ35 q35 => ?_)
      obtain ⟨rfl, n35, rfl, e35⟩ := q35
      refine zz_br rfl (fun h36 => ?_) (fun h36 => ?_)
      · refine zz_gsn 1 rfl ?_
        have hsh : w_sh kind = 2 := if_neg (by omega)
        have n0 : law ≠ 0 := fun z => h19 (x5.trans z)
        have n1 : law ≠ 1 := fun z => h27 (x5.trans z)
        refine zz_cv (n := 3) rfl rfl (t_Mill_even (mk := mk) p16 x3 x6 hC (by omega) x1 x2 (by omega) (by omega) (by omega) (fun z => by have z2 := hp z; rw [(w_deed_2 n0 n1).1, ← hW1, hsh] at z2; exact z2) hpb hqb hl1 hq) (Nat.le_of_ble_eq_true rfl) (Nat.le_of_ble_eq_true rfl) (Nat.le_of_ble_eq_true rfl) (fun r40 σ40 q40 => ?_)
        obtain ⟨rfl, p40, g40, b140, b240, b340, b440⟩ := q40
        refine zz_gsn 2 rfl ?_
        refine zz_ri rfl (Or.inl rfl) ?_
        obtain ⟨d1, d2, d3, d4⟩ := w_deed_2 (C := C) (mk := mk) (kind := kind) (x := x) (W := W) n0 n1
        rw [d1, d2, d3, d4, ← hW1, hsh]
        exact ⟨by rw [b440, x4], p40, g2.tr g40 hn1, b140, b240⟩
      · refine zz_gsn 1 rfl ?_
        refine zz_jp rfl ?_
        have hsh : w_sh kind = 1 := if_pos (by omega)
        have n0 : law ≠ 0 := fun z => h19 (x5.trans z)
        have n1 : law ≠ 1 := fun z => h27 (x5.trans z)
        refine zz_cv (n := 3) rfl rfl (t_Mill_even (mk := mk) p16 x3 x6 hC (by omega) x1 x2 (by omega) (by omega) (by omega) (fun z => by have z2 := hp z; rw [(w_deed_2 n0 n1).1, ← hW1, hsh] at z2; exact z2) hpb hqb hl1 hq) (Nat.le_of_ble_eq_true rfl) (Nat.le_of_ble_eq_true rfl) (Nat.le_of_ble_eq_true rfl) (fun r40 σ40 q40 => ?_)
        obtain ⟨rfl, p40, g40, b140, b240, b340, b440⟩ := q40
        refine zz_gsn 2 rfl ?_
        refine zz_ri rfl (Or.inl rfl) ?_
        obtain ⟨d1, d2, d3, d4⟩ := w_deed_2 (C := C) (mk := mk) (kind := kind) (x := x) (W := W) n0 n1
        rw [d1, d2, d3, d4, ← hW1, hsh]
        exact ⟨by rw [b440, x4], p40, g2.tr g40 hn1, b140, b240⟩
    · have n1 : law = 1 := x5.symm.trans h27
      refine zz_gsn 2 rfl ?_
      refine zz_cv (n := 2) rfl rfl (t_Mill_turnBySteps (mk := mk) p16 x3 x1 x2 (by omega) (fun z => by have z2 := hp z; rw [(w_deed_1 n1).1, ← hW1] at z2; exact z2) hpb hl1 (by omega) (by omega)) (Nat.le_of_ble_eq_true rfl) (Nat.le_of_ble_eq_true rfl) (Nat.le_of_ble_eq_true rfl) (fun r30 σ30 q30 => ?_)
      obtain ⟨rfl, p30, g30, b130, b230, b330, b430⟩ := q30
      refine zz_jp rfl ?_
      refine zz_gsn 2 rfl ?_
      refine zz_ri rfl (Or.inl rfl) ?_
      obtain ⟨d1, d2, d3, d4⟩ := w_deed_1 (C := C) (mk := mk) (kind := kind) (x := x) (W := W) n1
      rw [d1, d2, d3, d4, ← hW1]
      exact ⟨by rw [b430, x4], p30, g2.tr g30 hn1, b130, b230⟩
  · have n0 : law = 0 := x5.symm.trans h19
    refine zz_gsn 2 rfl ?_
    refine zz_cv (n := 2) rfl rfl (t_Mill_turnAtOnce (mk := mk) p16 x3 x1 (by omega) (fun z => by have z2 := hp z; rw [(w_deed_0 n0).1, ← hW1] at z2; exact z2) hpb hl1) (Nat.le_of_ble_eq_true rfl) (Nat.le_of_ble_eq_true rfl) (Nat.le_of_ble_eq_true rfl) (fun r22 σ22 q22 => ?_)
    obtain ⟨rfl, p22, g22, b122, b222, b322, b422⟩ := q22
    refine zz_jp rfl ?_
    refine zz_gsn 2 rfl ?_
    refine zz_ri rfl (Or.inl rfl) ?_
    obtain ⟨d1, d2, d3, d4⟩ := w_deed_0 (C := C) (mk := mk) (kind := kind) (x := x) (W := W) n0
    rw [d1, d2, d3, d4, ← hW1]
    exact ⟨by rw [b422, x4], p22, g2.tr g22 hn1, b122, b222.trans x2⟩
end
section
/-! what a deed leaves; what it does not depend on -/
/-- cells stay as they are, more are made -/
def w_ext (W W' : zz_W) : Prop := W.n ≤ W'.n ∧ ∀ i, i < W.n → W'.num i = W.num i ∧ W'.mkr i = W.mkr i
theorem w_ext.rf {W : zz_W} : w_ext W W := ⟨Nat.le_refl _, fun _ _ => ⟨rfl, rfl⟩⟩
theorem w_ext.tr {W W1 W2 : zz_W} (h : w_ext W W1) (h2 : w_ext W1 W2) : w_ext W W2 := ⟨Nat.le_trans h.1 h2.1, fun i hi => ⟨((h2.2 i (Nat.lt_of_lt_of_le hi h.1)).1).trans (h.2 i hi).1, ((h2.2 i (Nat.lt_of_lt_of_le hi h.1)).2).trans (h.2 i hi).2⟩⟩
theorem x_push (mk : Int) (k : Nat) (x : Int) (W : zz_W) : w_ext W (w_push mk k x W) := ⟨Nat.le_succ _, fun i hi => ⟨zu_n _ _ (Nat.ne_of_lt hi), zu_n _ _ (Nat.ne_of_lt hi)⟩⟩
theorem x_R (k : Nat) (l : List Nat) (W : zz_W) : w_ext W (w_R k l W) := w_ext.rf
theorem x_S (j : Nat) (v : Int) (W : zz_W) : w_ext W (w_S j v W) := w_ext.rf
theorem x_pop (k : Nat) (W : zz_W) : w_ext W (w_pop k W) := w_ext.rf
theorem x_move (mk : Int) (i j : Nat) (W : zz_W) : w_ext W (w_move mk i j W) := by
  unfold w_move
  split
  · exact w_ext.rf
  · exact (x_push _ _ _ _).tr (x_pop _ _)
theorem x_mvs (mk : Int) (i j : Nat) : ∀ (r : Nat) (W : zz_W), w_ext W (w_mvs mk i j r W)
  | 0, W => w_ext.rf
  | r + 1, W => (x_move mk i j W).tr (x_mvs mk i j r _)
theorem x_pus (mk : Int) (k : Nat) : ∀ (xs : List Int) (W : zz_W), w_ext W (w_pus mk k xs W)
  | [], W => w_ext.rf
  | x :: xs, W => (x_pus mk k xs W).tr (x_push _ _ _ _)
theorem x_all (mk : Int) (W : zz_W) : w_ext W (w_all mk W) := by
  unfold w_all
  split
  · exact x_mvs _ _ _ _ _
  · exact w_ext.rf
theorem x_dis (W : zz_W) : w_ext W (w_dis W) := by
  unfold w_dis
  split
  · exact w_ext.rf
  · split <;> exact w_ext.rf
theorem x_b (W : zz_W) : w_ext W (w_b W) := by
  unfold w_b
  split <;> exact w_ext.rf
theorem x_trn (mk : Int) (W : zz_W) : w_ext W (w_trn mk W) := by
  unfold w_trn
  split
  · split
    · exact (x_S 7 2 W).tr (x_move _ _ _ _)
    · exact ((x_move mk 2 3 W).tr (x_S _ _ _)).tr (x_move _ _ _ _)
  · split
    · split
      · exact (x_move mk 3 5 W).tr (x_S _ _ _)
      · exact w_ext.rf
    · exact w_ext.rf
theorem x_fin (W : zz_W) : w_ext W (w_fin W) := by
  unfold w_fin
  split <;> exact w_ext.rf
theorem x_one (mk : Int) (W : zz_W) : w_ext W (w_one mk W) := (((x_b W).tr (x_trn mk _)).tr (x_trn mk _)).tr (x_fin _)
theorem x_spl (mk : Int) (i j : Nat) (W : zz_W) : w_ext W (w_spl mk i j W) := by
  have h : w_ext W (w_R j [] (w_R i [] W)) := w_ext.rf
  exact (((h.tr (x_pus mk i _ _)).tr (x_pus mk j _ _)).tr (x_S _ _ _)).tr (x_S _ _ _)
theorem x_evn (mk C sh : Int) (W : zz_W) : w_ext W (w_evn mk C (w_pay sh W)) := by
  have h : w_ext W (w_pay sh W) := w_ext.rf
  unfold w_evn
  split
  · exact h.tr (x_spl _ _ _ _)
  · split
    · exact h.tr (x_spl _ _ _ _)
    · exact h
theorem x_chg (law mk kind x : Int) (W : zz_W) (hk : 0 ≤ kind ∧ kind ≤ 3) : w_ext W (w_chg law mk kind x W) := by
  have h : kind = 0 ∨ kind = 1 ∨ kind = 2 ∨ kind = 3 := by omega
  rcases h with h | h | h | h <;> subst h
  · exact (x_S 11 _ W).tr (x_push _ _ _ _)
  · by_cases hl : law = 1
    · rw [w_chg1 mk x W hl]
      exact ((x_S 11 _ W).tr (x_dis _)).tr (x_pop _ _)
    · rw [w_chg1n mk x W hl]
      exact w_ext.rf
  · exact (x_S 11 _ W).tr (x_push _ _ _ _)
  · exact w_ext.rf
theorem x_deed (law C mk kind x : Int) (W : zz_W) (hk : 0 ≤ kind ∧ kind ≤ 3) : w_ext W (w_deed law C mk kind x W) := by
  refine (x_chg law mk kind x W hk).tr ?_
  by_cases h : law = 0
  · rw [(w_deed_0 h).1]
    exact x_all mk _
  · by_cases h1 : law = 1
    · rw [(w_deed_1 h1).1]
      exact x_one mk _
    · rw [(w_deed_2 h h1).1]
      exact x_evn mk C _ _
/-- alike but for the cells' numbers and makers -/
def w_eq (W W' : zz_W) : Prop := W.n = W'.n ∧ W.R = W'.R ∧ W.S = W'.S
theorem w_eq.rf {W : zz_W} : w_eq W W := ⟨rfl, rfl, rfl⟩
theorem q_push {mk mk' : Int} {k : Nat} {x x' : Int} {W W' : zz_W} (h : w_eq W W') : w_eq (w_push mk k x W) (w_push mk' k x' W') := by
  obtain ⟨h1, h2, h3⟩ := h
  refine ⟨?_, ?_, h3⟩
  · show W.n + 1 = W'.n + 1
    rw [h1]
  · show zu W.R k (W.n :: W.R k) = zu W'.R k (W'.n :: W'.R k)
    rw [h1, h2]
theorem q_R {k : Nat} {l l' : List Nat} {W W' : zz_W} (h : w_eq W W') (hl : l = l') : w_eq (w_R k l W) (w_R k l' W') := by
  obtain ⟨h1, h2, h3⟩ := h
  subst hl
  refine ⟨h1, ?_, h3⟩
  show zu W.R k l = zu W'.R k l
  rw [h2]
theorem q_S {j : Nat} {v v' : Int} {W W' : zz_W} (h : w_eq W W') (hv : v = v') : w_eq (w_S j v W) (w_S j v' W') := by
  obtain ⟨h1, h2, h3⟩ := h
  subst hv
  refine ⟨h1, h2, ?_⟩
  show zu W.S j v = zu W'.S j v
  rw [h3]
theorem q_pop {k : Nat} {W W' : zz_W} (h : w_eq W W') : w_eq (w_pop k W) (w_pop k W') := q_R h (by rw [h.2.1])
theorem q_move {mk mk' : Int} {i j : Nat} {W W' : zz_W} (h : w_eq W W') : w_eq (w_move mk i j W) (w_move mk' i j W') := by
  unfold w_move
  rw [h.2.1]
  cases W'.R i with
  | nil => exact h
  | cons c l => exact q_pop (q_push h)
theorem q_mvs {mk mk' : Int} {i j : Nat} : ∀ {r : Nat} {W W' : zz_W}, w_eq W W' → w_eq (w_mvs mk i j r W) (w_mvs mk' i j r W')
  | 0, _, _, h => h
  | r + 1, W, W', h => q_mvs (r := r) (W := w_move mk i j W) (W' := w_move mk' i j W') (q_move h)
theorem q_pus {mk mk' : Int} {k : Nat} : ∀ {xs ys : List Int} {W W' : zz_W}, xs.length = ys.length → w_eq W W' → w_eq (w_pus mk k xs W) (w_pus mk' k ys W')
  | [], [], _, _, _, h => h
  | _ :: _, _ :: _, _, _, hl, h => q_push (q_pus (Nat.succ.inj hl) h)
theorem q_len {k : Nat} {W W' : zz_W} (h : w_eq W W') : w_len k W = w_len k W' := by
  show (((W.R k).length : Nat) : Int) = ((W'.R k).length : Nat)
  rw [h.2.1]
theorem q_if {c : Prop} {c' : Prop} [Decidable c] [Decidable c'] {A B A' B' : zz_W} (hc : c ↔ c') (h1 : w_eq A A') (h2 : w_eq B B') : w_eq (if c then A else B) (if c' then A' else B') := by
  by_cases h : c
  · rw [if_pos h, if_pos (hc.mp h)]
    exact h1
  · rw [if_neg h, if_neg (fun z => h (hc.mpr z))]
    exact h2
theorem q_ii {c : Prop} {c' : Prop} [Decidable c] [Decidable c'] {a b a' b' : Int} (hc : c ↔ c') (h1 : a = a') (h2 : b = b') : (if c then a else b) = (if c' then a' else b') := by
  by_cases h : c
  · rw [if_pos h, if_pos (hc.mp h)]
    exact h1
  · rw [if_neg h, if_neg (fun z => h (hc.mpr z))]
    exact h2
theorem q_all {mk mk' : Int} {W W' : zz_W} (h : w_eq W W') : w_eq (w_all mk W) (w_all mk' W') := by
  unfold w_all
  refine q_if (by rw [h.2.1]) ?_ h
  rw [h.2.1]
  exact q_mvs h
theorem q_dis {W W' : zz_W} (h : w_eq W W') : w_eq (w_dis W) (w_dis W') := by
  unfold w_dis
  rw [h.2.2]
  refine q_if Iff.rfl (q_S (q_pop (q_S h rfl)) rfl) (q_if Iff.rfl (q_S (q_S h rfl) rfl) (q_S h rfl))
theorem q_clr {W W' : zz_W} (h : w_eq W W') : w_eq (w_clr W) (w_clr W') := q_S (q_S (q_R (q_R (q_R (q_R h rfl) rfl) rfl) rfl) rfl) rfl
theorem q_b {W W' : zz_W} (h : w_eq W W') : w_eq (w_b W) (w_b W') := by
  unfold w_b
  refine q_if (by rw [h.2.2, q_len h]) ?_ h
  exact q_R (q_S (q_R (q_R (q_S (q_clr h) rfl) (by rw [h.2.1])) (by rw [h.2.1])) (by rw [h.2.2, q_len h])) rfl
theorem q_trn {mk mk' : Int} {W W' : zz_W} (h : w_eq W W') : w_eq (w_trn mk W) (w_trn mk' W') := by
  unfold w_trn
  rw [h.2.2, h.2.1]
  refine q_if Iff.rfl (q_if Iff.rfl (q_move (q_S h rfl)) (q_move (q_S (q_move h) rfl))) (q_if Iff.rfl (q_if Iff.rfl (q_S (q_move h) rfl) (q_S h rfl)) h)
theorem q_fin {W W' : zz_W} (h : w_eq W W') : w_eq (w_fin W) (w_fin W') := by
  unfold w_fin
  rw [h.2.2]
  exact q_if Iff.rfl (q_clr (q_R h (by rw [h.2.1]))) h
theorem q_one {mk mk' : Int} {W W' : zz_W} (h : w_eq W W') : w_eq (w_one mk W) (w_one mk' W') := q_fin (q_trn (q_trn (q_b h)))
theorem q_trnS {W W' : zz_W} (h : w_eq W W') : w_trnS W = w_trnS W' := by
  unfold w_trnS
  rw [h.2.2]
theorem q_oneS {mk mk' : Int} {W W' : zz_W} (h : w_eq W W') : w_oneS mk W = w_oneS mk' W' := by
  unfold w_oneS
  rw [q_trnS (q_b h), q_trnS (q_trn (mk := mk) (mk' := mk') (q_b h))]
theorem q_spl {mk mk' : Int} {i j : Nat} {W W' : zz_W} (h : w_eq W W') : w_eq (w_spl mk i j W) (w_spl mk' i j W') := by
  have hl : (w_laid i j W).length = (w_laid i j W').length := by rw [w_laid_len, w_laid_len, h.2.1]
  have h1 : w_eq (w_pus mk j ((w_laid i j W).drop ((w_laid i j W).length / 2)).reverse (w_pus mk i ((w_laid i j W).take ((w_laid i j W).length / 2)) (w_R j [] (w_R i [] W)))) (w_pus mk' j ((w_laid i j W').drop ((w_laid i j W').length / 2)).reverse (w_pus mk' i ((w_laid i j W').take ((w_laid i j W').length / 2)) (w_R j [] (w_R i [] W')))) := by
    refine q_pus ?_ (q_pus ?_ (q_R (q_R h rfl) rfl))
    · rw [List.length_reverse, List.length_reverse, List.length_drop, List.length_drop, hl]
    · rw [List.length_take, List.length_take, hl]
  exact q_S (q_S h1 (q_len h1)) (q_len h1)
theorem q_pay {sh : Int} {W W' : zz_W} (h : w_eq W W') : w_eq (w_pay sh W) (w_pay sh W') := q_S (q_S h (by rw [h.2.2])) (by rw [h.2.2])
theorem q_evn {mk mk' C : Int} {W W' : zz_W} (h : w_eq W W') : w_eq (w_evn mk C W) (w_evn mk' C W') := by
  unfold w_evn
  exact q_if (by rw [q_len h, q_len h]) (q_spl h) (q_if (by rw [q_len h, q_len h]) (q_spl h) h)
theorem q_chg {law mk mk' kind x x' : Int} {W W' : zz_W} (hk : 0 ≤ kind ∧ kind ≤ 3) (h : w_eq W W') : w_eq (w_chg law mk kind x W) (w_chg law mk' kind x' W') := by
  have hk4 : kind = 0 ∨ kind = 1 ∨ kind = 2 ∨ kind = 3 := by omega
  rcases hk4 with e | e | e | e <;> subst e
  · exact q_push (q_S h (by rw [h.2.2]))
  · by_cases hl : law = 1
    · rw [w_chg1 mk x W hl, w_chg1 mk' x' W' hl]
      have hd := q_dis (q_S (j := 11) (v := W.S 11 - 1) (v' := W'.S 11 - 1) h (by rw [h.2.2]))
      rw [hd.2.1]
      exact q_pop hd
    · rw [w_chg1n mk x W hl, w_chg1n mk' x' W' hl, h.2.1]
      exact q_pop (q_S h (by rw [h.2.2]))
  · exact q_push (q_S h (by rw [h.2.2]))
  · rw [w_chg3, w_chg3, h.2.1]
    exact q_pop (q_S h (by rw [h.2.2]))
theorem q_deed {law C mk mk' kind x x' : Int} {W W' : zz_W} (hk : 0 ≤ kind ∧ kind ≤ 3) (h : w_eq W W') : w_eq (w_deed law C mk kind x W) (w_deed law C mk' kind x' W') ∧ w_steps law C mk kind x W = w_steps law C mk' kind x' W' ∧ w_begun law C mk kind x W = w_begun law C mk' kind x' W' ∧ w_over law C mk kind x W = w_over law C mk' kind x' W' := by
  have h1 : w_eq (w_chg law mk kind x W) (w_chg law mk' kind x' W') := q_chg hk h
  by_cases hl : law = 0
  · obtain ⟨a1, a2, a3, a4⟩ := w_deed_0 (C := C) (mk := mk) (kind := kind) (x := x) (W := W) hl
    obtain ⟨b1, b2, b3, b4⟩ := w_deed_0 (C := C) (mk := mk') (kind := kind) (x := x') (W := W') hl
    rw [a1, a2, a3, a4, b1, b2, b3, b4]
    refine ⟨q_all h1, ?_, ?_, rfl⟩
    · unfold w_allS
      rw [h1.2.1, q_len h1]
    · unfold w_allB
      rw [h1.2.1]
  · by_cases hl1 : law = 1
    · obtain ⟨a1, a2, a3, a4⟩ := w_deed_1 (C := C) (mk := mk) (kind := kind) (x := x) (W := W) hl1
      obtain ⟨b1, b2, b3, b4⟩ := w_deed_1 (C := C) (mk := mk') (kind := kind) (x := x') (W := W') hl1
      rw [a1, a2, a3, a4, b1, b2, b3, b4]
      refine ⟨q_one h1, ?_, ?_, ?_⟩
      · rw [q_oneS (mk := mk) (mk' := mk') h1]
      · unfold w_oneB
        rw [h1.2.2, q_len h1]
      · unfold w_oneO
        rw [h1.2.2, q_len h1]
    · obtain ⟨a1, a2, a3, a4⟩ := w_deed_2 (C := C) (mk := mk) (kind := kind) (x := x) (W := W) hl hl1
      obtain ⟨b1, b2, b3, b4⟩ := w_deed_2 (C := C) (mk := mk') (kind := kind) (x := x') (W := W') hl hl1
      rw [a1, a2, a3, a4, b1, b2, b3, b4]
      have h2 := q_pay (sh := w_sh kind) h1
      refine ⟨q_evn h2, ?_, ?_, ?_⟩
      · unfold w_payS
        rw [h1.2.2]
      · unfold w_evnB
        rw [q_len h2, q_len h2]
      · unfold w_evnO
        rw [q_len h2, q_len h2, h2.2.2]
theorem SP.q {σ : zz_M} {m s : Nat} {W W' : zz_W} (h : SP σ 0 m s W) (e : w_eq W W') : SP σ 0 m s W' := by
  obtain ⟨h1, h2, h3, h4, h5⟩ := h
  obtain ⟨e1, e2, e3⟩ := e
  refine ⟨fun k hk => ⟨?_, fun z => absurd z (Nat.lt_irrefl 0)⟩, fun j a b => ?_, ?_, fun z => absurd z (Nat.lt_irrefl 0), fun k hk c hc => ?_⟩
  · rw [(h1 k hk).1]
    show (((W.R k).length : Nat) : Int) = ((W'.R k).length : Nat)
    rw [e2]
  · rw [h2 j a b, e3]
  · rw [h3, e3]
  · rw [← e1]
    exact h5 k hk c (by rw [e2]; exact hc)
end
section
/-! the turning, step by step -/
abbrev w_l (k : Nat) (W : zz_W) : Nat := (W.R k).length
theorem m_mv {mk : Int} {i j : Nat} {W : zz_W} (hij : i ≠ j) (h : 0 < w_l i W) : w_l i (w_move mk i j W) + 1 = w_l i W ∧ w_l j (w_move mk i j W) = w_l j W + 1 ∧ (∀ k, k ≠ i → k ≠ j → (w_move mk i j W).R k = W.R k) ∧ (w_move mk i j W).n = W.n + 1 := by
  have hne : W.R i ≠ [] := fun z => by
    have z2 : w_l i W = 0 := by show (W.R i).length = 0; rw [z]; rfl
    omega
  cases e : W.R i with
  | nil => exact absurd e hne
  | cons c l =>
    obtain ⟨a, b, d⟩ := w_move_R (mk := mk) hij e
    refine ⟨?_, ?_, d, ?_⟩
    · show ((w_move mk i j W).R i).length + 1 = (W.R i).length
      rw [a, e, List.length_cons]
    · show ((w_move mk i j W).R j).length = (W.R j).length + 1
      rw [b, List.length_cons]
    · rw [w_move_n, if_neg hne]
theorem w_nil {k : Nat} {W : zz_W} (h : w_l k W = 0) : W.R k = [] := List.length_eq_zero_iff.mp h
theorem w_nil' {k : Nat} {W : zz_W} (h : W.R k = []) : w_l k W = 0 := by
  show (W.R k).length = 0
  rw [h]
  rfl
def TM (W : zz_W) (s N t : Nat) : Prop := W.S 7 = 1 ∧ w_l 3 W = s ∧ w_l 5 W = s ∧ w_l 2 W + s = N ∧ w_l 4 W = w_l 2 W + 1 ∧ w_l 0 W + t = N ∧ W.S 8 = (s : Int) - t ∧ W.S 6 = 2 * (N : Int) + 1 - t
def JM (W : zz_W) (s N t : Nat) : Prop := W.S 7 = 2 ∧ w_l 2 W = 0 ∧ w_l 4 W = 0 ∧ w_l 5 W = s ∧ w_l 3 W + s = 2 * N + 1 ∧ w_l 0 W + t = N ∧ W.S 8 = (w_l 3 W : Int) - t ∧ 0 ≤ W.S 8 ∧ W.S 6 = 2 * (N : Int) + 1 - t
def RM (W : zz_W) : Prop := W.S 7 = 3 ∧ w_l 2 W = 0 ∧ w_l 4 W = 0 ∧ (w_l 5 W : Int) = W.S 6
def IM (W : zz_W) : Prop := W.S 7 = 0 ∧ w_l 2 W = 0 ∧ w_l 3 W = 0 ∧ w_l 4 W = 0 ∧ w_l 5 W = 0 ∧ W.S 8 = 0 ∧ (w_l 0 W : Int) = W.S 6
/-- what a step of turning keeps -/
def w_kp (W W' : zz_W) : Prop := W'.R 0 = W.R 0 ∧ W'.R 1 = W.R 1 ∧ W'.S 6 = W.S 6 ∧ W'.S 9 = W.S 9 ∧ W'.S 10 = W.S 10 ∧ W'.S 11 = W.S 11
theorem w_kp.rf {W : zz_W} : w_kp W W := ⟨rfl, rfl, rfl, rfl, rfl, rfl⟩
theorem w_kp.tr {W W1 W2 : zz_W} (h : w_kp W W1) (h2 : w_kp W1 W2) : w_kp W W2 := ⟨h2.1.trans h.1, h2.2.1.trans h.2.1, h2.2.2.1.trans h.2.2.1, h2.2.2.2.1.trans h.2.2.2.1, h2.2.2.2.2.1.trans h.2.2.2.2.1, h2.2.2.2.2.2.trans h.2.2.2.2.2⟩
theorem k_S7 {v : Int} {W : zz_W} : w_kp W (w_S 7 v W) := ⟨rfl, rfl, rfl, rfl, rfl, rfl⟩
theorem k_S8 {v : Int} {W : zz_W} : w_kp W (w_S 8 v W) := ⟨rfl, rfl, rfl, rfl, rfl, rfl⟩
theorem k_mv {mk : Int} {i j : Nat} {W : zz_W} (hi : 2 ≤ i) (hj : 2 ≤ j) : w_kp W (w_move mk i j W) := by
  have hs := w_move_S mk i j W
  refine ⟨?_, ?_, by rw [hs], by rw [hs], by rw [hs], by rw [hs]⟩ <;>
  · unfold w_move
    split
    · rfl
    · show (zu (zu W.R j _) i _) _ = _
      rw [zu_n _ _ (by omega), zu_n _ _ (by omega)]
theorem t_idle {mk : Int} {W : zz_W} (h : W.S 7 ≠ 1) (h2 : W.S 7 ≠ 2) : w_trn mk W = W := by
  unfold w_trn
  rw [if_neg h, if_neg h2]
theorem t_TM {mk : Int} {W : zz_W} {s N t : Nat} (h : TM W s N t) : w_kp W (w_trn mk W) ∧ (w_trn mk W).n ≤ W.n + 2 ∧ ((s < N ∧ TM (w_trn mk W) (s + 1) N t) ∨ (s = N ∧ JM (w_trn mk W) (s + 1) N t)) := by
  obtain ⟨h7, h3, h5, h2, h4, h0, h8, h6⟩ := h
  unfold w_trn
  rw [if_pos h7]
  by_cases e : W.R 2 = []
  · rw [if_pos e]
    have e2 := w_nil' e
    obtain ⟨a1, a2, a3, a4⟩ := m_mv (mk := mk) (i := 4) (j := 5) (W := w_S 7 2 W) (by decide) (by show 0 < w_l 4 W; omega)
    have hs := w_move_S mk 4 5 (w_S 7 2 W)
    refine ⟨k_S7.tr (k_mv (by decide) (by decide)), by rw [a4]; exact Nat.le_succ _, Or.inr ⟨by omega, ?_⟩⟩
    have b0 : w_l 0 (w_move mk 4 5 (w_S 7 2 W)) = w_l 0 W := by show ((w_move mk 4 5 (w_S 7 2 W)).R 0).length = _; rw [a3 0 (by decide) (by decide)]; rfl
    have b2 : w_l 2 (w_move mk 4 5 (w_S 7 2 W)) = w_l 2 W := by show ((w_move mk 4 5 (w_S 7 2 W)).R 2).length = _; rw [a3 2 (by decide) (by decide)]; rfl
    have b3 : w_l 3 (w_move mk 4 5 (w_S 7 2 W)) = w_l 3 W := by show ((w_move mk 4 5 (w_S 7 2 W)).R 3).length = _; rw [a3 3 (by decide) (by decide)]; rfl
    have b4 : w_l 4 (w_S 7 2 W) = w_l 4 W := rfl
    have b5 : w_l 5 (w_S 7 2 W) = w_l 5 W := rfl
    have c7 : (w_move mk 4 5 (w_S 7 2 W)).S 7 = 2 := by rw [hs]; rfl
    have c8 : (w_move mk 4 5 (w_S 7 2 W)).S 8 = W.S 8 := by rw [hs]; rfl
    have c6 : (w_move mk 4 5 (w_S 7 2 W)).S 6 = W.S 6 := by rw [hs]; rfl
    exact ⟨c7, by omega, by omega, by omega, by omega, by omega, by omega, by omega, by omega⟩
  · rw [if_neg e]
    have e2 : 0 < w_l 2 W := by
      rcases Nat.eq_zero_or_pos (w_l 2 W) with z | z
      · exact absurd (w_nil z) e
      · exact z
    obtain ⟨a1, a2, a3, a4⟩ := m_mv (mk := mk) (i := 2) (j := 3) (W := W) (by decide) e2
    obtain ⟨W1, hW1⟩ : ∃ W1, W1 = w_move mk 2 3 W := ⟨_, rfl⟩
    have hs := w_move_S mk 2 3 W
    have kp1 : w_kp W W1 := by rw [hW1]; exact k_mv (by decide) (by decide)
    rw [← hW1] at a1 a2 a3 a4 hs ⊢
    have l4 : w_l 4 W1 = w_l 4 W := by show (W1.R 4).length = _; rw [a3 4 (by decide) (by decide)]
    have l5 : w_l 5 W1 = w_l 5 W := by show (W1.R 5).length = _; rw [a3 5 (by decide) (by decide)]
    have l0 : w_l 0 W1 = w_l 0 W := by show (W1.R 0).length = _; rw [kp1.1]
    obtain ⟨W2, hW2⟩ : ∃ W2, W2 = w_S 8 (W.S 8 + 1) W1 := ⟨_, rfl⟩
    rw [← hW2]
    have r2 : W2.R = W1.R := by rw [hW2]; rfl
    have m2 : ∀ k, w_l k W2 = w_l k W1 := fun k => by show (W2.R k).length = _; rw [r2]
    have kp2 : w_kp W1 W2 := by rw [hW2]; exact k_S8
    have s8 : W2.S 8 = W.S 8 + 1 := by rw [hW2]; rfl
    have s7 : W2.S 7 = W.S 7 := by rw [hW2]; show W1.S 7 = _; rw [hs]
    have n2 : W2.n = W1.n := by rw [hW2]; rfl
    obtain ⟨d1, d2, d3, d4⟩ := m_mv (mk := mk) (i := 4) (j := 5) (W := W2) (by decide) (by rw [m2 4]; omega)
    have ht := w_move_S mk 4 5 W2
    have kp3 : w_kp W2 (w_move mk 4 5 W2) := k_mv (by decide) (by decide)
    obtain ⟨W3, hW3⟩ : ∃ W3, W3 = w_move mk 4 5 W2 := ⟨_, rfl⟩
    rw [← hW3] at d1 d2 d3 d4 ht kp3 ⊢
    have l2 : w_l 2 W3 = w_l 2 W2 := by show (W3.R 2).length = _; rw [d3 2 (by decide) (by decide)]
    have l3 : w_l 3 W3 = w_l 3 W2 := by show (W3.R 3).length = _; rw [d3 3 (by decide) (by decide)]
    have l0' : w_l 0 W3 = w_l 0 W2 := by show (W3.R 0).length = _; rw [kp3.1]
    rw [m2] at d1 d2 l2 l3 l0'
    have kp := (kp1.tr kp2).tr kp3
    refine ⟨kp, by omega, Or.inl ⟨by omega, by rw [ht, s7]; exact h7, by omega, by omega, by omega, by omega, by omega, ?_, ?_⟩⟩
    · rw [ht, s8]
      omega
    · rw [kp.2.2.1]
      exact h6
theorem t_JM {mk : Int} {W : zz_W} {s N t : Nat} (h : JM W s N t) : w_kp W (w_trn mk W) ∧ (w_trn mk W).n ≤ W.n + 2 ∧ ((0 < W.S 8 ∧ JM (w_trn mk W) (s + 1) N t) ∨ (W.S 8 = 0 ∧ RM (w_trn mk W))) := by
  obtain ⟨h7, h2, h4, h5, h3, h0, h8, hg, h6⟩ := h
  unfold w_trn
  rw [if_neg (by omega), if_pos h7]
  by_cases e : 0 < W.S 8
  · rw [if_pos e]
    obtain ⟨a1, a2, a3, a4⟩ := m_mv (mk := mk) (i := 3) (j := 5) (W := W) (by decide) (by omega)
    have hs := w_move_S mk 3 5 W
    have kp1 : w_kp W (w_move mk 3 5 W) := k_mv (by decide) (by decide)
    obtain ⟨W1, hW1⟩ : ∃ W1, W1 = w_move mk 3 5 W := ⟨_, rfl⟩
    rw [← hW1] at a1 a2 a3 a4 hs kp1 ⊢
    have l4 : w_l 4 W1 = w_l 4 W := by show (W1.R 4).length = _; rw [a3 4 (by decide) (by decide)]
    have l2 : w_l 2 W1 = w_l 2 W := by show (W1.R 2).length = _; rw [a3 2 (by decide) (by decide)]
    have l0 : w_l 0 W1 = w_l 0 W := by show (W1.R 0).length = _; rw [kp1.1]
    refine ⟨kp1.tr k_S8, ?_, Or.inl ⟨e, ?_, ?_, ?_, ?_, ?_, ?_, ?_, ?_, ?_⟩⟩
    · show W1.n ≤ _
      omega
    · show W1.S 7 = 2
      rw [hs]
      exact h7
    · show w_l 2 W1 = 0
      omega
    · show w_l 4 W1 = 0
      omega
    · show w_l 5 W1 = s + 1
      omega
    · show w_l 3 W1 + (s + 1) = _
      omega
    · show w_l 0 W1 + t = N
      omega
    · show W.S 8 - 1 = (w_l 3 W1 : Int) - t
      omega
    · show 0 ≤ W.S 8 - 1
      omega
    · show W1.S 6 = _
      rw [hs]
      exact h6
  · rw [if_neg e]
    refine ⟨k_S7, Nat.le_add_right _ _, Or.inr ⟨by omega, rfl, h2, h4, ?_⟩⟩
    show (w_l 5 W : Int) = W.S 6
    omega
end
section
/-! the turning is never late -/
def OM (W : zz_W) (s N t : Nat) : Prop := TM W s N t ∨ JM W s N t ∨ RM W
theorem t_OM {mk : Int} {W : zz_W} {s N t : Nat} (h : OM W s N t) : w_kp W (w_trn mk W) ∧ (w_trn mk W).n ≤ W.n + 2 ∧ OM (w_trn mk W) (s + 1) N t := by
  rcases h with h | h | h
  · obtain ⟨a, b, c | c⟩ := t_TM (mk := mk) h
    · exact ⟨a, b, Or.inl c.2⟩
    · exact ⟨a, b, Or.inr (Or.inl c.2)⟩
  · obtain ⟨a, b, c | c⟩ := t_JM (mk := mk) h
    · exact ⟨a, b, Or.inr (Or.inl c.2)⟩
    · exact ⟨a, b, Or.inr (Or.inr c.2)⟩
  · have e : w_trn mk W = W := t_idle (by rw [h.1]; decide) (by rw [h.1]; decide)
    rw [e]
    exact ⟨w_kp.rf, Nat.le_add_right _ _, Or.inr (Or.inr h)⟩
def HM (W : zz_W) : Prop := W.S 9 = 0 ∧ W.S 10 = 0 ∧ W.S 11 = W.S 6 + w_len 1 W ∧ ((IM W ∧ w_len 1 W ≤ W.S 6) ∨ (∃ N t, TM W (2 * (t + w_l 1 W + 1)) N t) ∨ (∃ N t, JM W (2 * (t + w_l 1 W + 1)) N t))
theorem f_OM {mk : Int} {W : zz_W} {s N t : Nat} (h : OM W s N t) (h9 : W.S 9 = 0) (h10 : W.S 10 = 0) (h11 : W.S 11 = W.S 6 + w_len 1 W) (hl : w_len 1 W ≤ W.S 6) (hs : s + 2 = 2 * (t + w_l 1 W + 1)) : HM (w_fin (w_trn mk (w_trn mk W))) ∧ (w_fin (w_trn mk (w_trn mk W))).n ≤ W.n + 4 := by
  obtain ⟨k1, n1, o1⟩ := t_OM (mk := mk) h
  obtain ⟨k2, n2, o2⟩ := t_OM (mk := mk) o1
  have kk := k1.tr k2
  obtain ⟨W2, hW2⟩ : ∃ W2, W2 = w_trn mk (w_trn mk W) := ⟨_, rfl⟩
  rw [← hW2] at o2 kk n2 ⊢
  obtain ⟨c0, c1, c6, c9, c10, c11⟩ := kk
  have l1 : w_len 1 W2 = w_len 1 W := by show (((W2.R 1).length : Nat) : Int) = _; rw [c1]
  have l1' : w_l 1 W2 = w_l 1 W := by show (W2.R 1).length = _; rw [c1]
  refine ⟨?_, by rw [w_fin_n]; omega⟩
  rcases o2 with o | o | o
  · have e : w_fin W2 = W2 := if_neg (by rw [o.1]; decide)
    rw [e]
    refine ⟨c9.trans h9, c10.trans h10, by rw [c11, h11, c6, l1], Or.inr (Or.inl ⟨N, t, ?_⟩)⟩
    rw [l1', ← hs]
    exact o
  · have e : w_fin W2 = W2 := if_neg (by rw [o.1]; decide)
    rw [e]
    refine ⟨c9.trans h9, c10.trans h10, by rw [c11, h11, c6, l1], Or.inr (Or.inr ⟨N, t, ?_⟩)⟩
    rw [l1', ← hs]
    exact o
  · have e : w_fin W2 = w_clr (w_R 0 (W2.R 5) W2) := if_pos o.1
    rw [e]
    have a1 : w_len 1 (w_clr (w_R 0 (W2.R 5) W2)) = w_len 1 W2 := rfl
    refine ⟨c9.trans h9, c10.trans h10, ?_, Or.inl ⟨⟨rfl, rfl, rfl, rfl, rfl, rfl, o.2.2.2⟩, ?_⟩⟩
    · rw [a1, l1]
      show W2.S 11 = W2.S 6 + _
      rw [c11, h11, c6]
    · rw [a1, l1]
      show _ ≤ W2.S 6
      rw [c6]
      exact hl
theorem HM_one {mk : Int} {W : zz_W} (h9 : W.S 9 = 0) (h10 : W.S 10 = 0) (h11 : W.S 11 = W.S 6 + w_len 1 W) (h : (IM W ∧ w_len 1 W ≤ W.S 6 + 1) ∨ (∃ s N t, OM W s N t ∧ w_len 1 W ≤ W.S 6 ∧ s + 2 = 2 * (t + w_l 1 W + 1))) : HM (w_one mk W) ∧ (w_one mk W).n ≤ W.n + 4 := by
  rcases h with ⟨h, hb⟩ | ⟨s, N, t, h, hl, hs⟩
  · by_cases hb2 : W.S 6 < w_len 1 W
    · have e : w_b W = w_beg W := if_pos hb2
      obtain ⟨i7, i2, i3, i4, i5, i8, i0⟩ := h
      have hlen : w_len 1 W = (w_l 1 W : Nat) := rfl
      have hT : TM (w_beg W) 0 (w_l 0 W) 0 := by
        refine ⟨rfl, rfl, rfl, Nat.add_zero _, ?_, Nat.add_zero _, rfl, ?_⟩
        · show w_l 1 W = w_l 0 W + 1
          omega
        · show W.S 6 + w_len 1 W = 2 * (w_l 0 W : Int) + 1 - (0 : Nat)
          omega
      show HM (w_fin (w_trn mk (w_trn mk (w_b W)))) ∧ (w_fin (w_trn mk (w_trn mk (w_b W)))).n ≤ W.n + 4
      rw [e]
      refine f_OM (W := w_beg W) (Or.inl hT) h9 h10 ?_ ?_ rfl
      · show W.S 11 = W.S 6 + w_len 1 W + 0
        omega
      · show (0 : Int) ≤ W.S 6 + w_len 1 W
        omega
    · have e : w_b W = W := if_neg hb2
      show HM (w_fin (w_trn mk (w_trn mk (w_b W)))) ∧ (w_fin (w_trn mk (w_trn mk (w_b W)))).n ≤ W.n + 4
      have e2 : w_trn mk W = W := t_idle (by rw [h.1]; decide) (by rw [h.1]; decide)
      have e3 : w_fin W = W := if_neg (by rw [h.1]; decide)
      rw [e, e2, e2, e3]
      exact ⟨⟨h9, h10, h11, Or.inl ⟨h, by omega⟩⟩, Nat.le_add_right _ _⟩
  · have e : w_b W = W := if_neg (by omega)
    show HM (w_fin (w_trn mk (w_trn mk (w_b W)))) ∧ (w_fin (w_trn mk (w_trn mk (w_b W)))).n ≤ W.n + 4
    rw [e]
    exact f_OM h h9 h10 h11 hl hs
theorem HM_put {mk C x : Int} {W : zz_W} (h : HM W) : HM (w_deed 1 C mk 0 x W) ∧ (w_deed 1 C mk 0 x W).n ≤ W.n + 5 := by
  obtain ⟨h9, h10, h11, h⟩ := h
  obtain ⟨W1, hW1⟩ : ∃ W1, W1 = w_chg 1 mk 0 x W := ⟨_, rfl⟩
  have hd : w_deed 1 C mk 0 x W = w_one mk W1 := by rw [hW1]; rfl
  have hl : w_l 1 W1 = w_l 1 W + 1 := by rw [hW1]; rfl
  have hl' : w_len 1 W1 = w_len 1 W + 1 := by show (w_l 1 W1 : Int) = (w_l 1 W : Int) + 1; omega
  have hn : W1.n = W.n + 1 := by rw [hW1]; rfl
  have hz : w_len 1 W = (w_l 1 W : Nat) := rfl
  rw [hd]
  have k6 : W1.S 6 = W.S 6 := by rw [hW1]; rfl
  have kk := HM_one (mk := mk) (W := W1) (by rw [hW1]; exact h9) (by rw [hW1]; exact h10) (by rw [hl', k6]; rw [hW1]; show W.S 11 + 1 = _; omega) (by
    rcases h with ⟨h, hb⟩ | ⟨N, t, h⟩ | ⟨N, t, h⟩
    · exact Or.inl ⟨by rw [hW1]; exact h, by rw [hl', k6]; omega⟩
    · refine Or.inr ⟨_, N, t, Or.inl (by rw [hW1]; exact h), ?_, by rw [hl]; omega⟩
      obtain ⟨a7, a3, a5, a2, a4, a0, a8, a6⟩ := h
      rw [hl', k6]
      omega
    · refine Or.inr ⟨_, N, t, Or.inr (Or.inl (by rw [hW1]; exact h)), ?_, by rw [hl]; omega⟩
      obtain ⟨a7, a2, a4, a5, a3, a0, a8, ag, a6⟩ := h
      rw [hl', k6]
      omega)
  exact ⟨kk.1, by omega⟩
theorem w_tl {k : Nat} {W : zz_W} : w_l k (w_pop k W) = w_l k W - 1 := by
  show ((zu W.R k (W.R k).tail) k).length = _
  rw [zu_s, List.length_tail]
theorem HM_take {mk C x : Int} {W : zz_W} (h : HM W) (hpos : 0 < W.S 11) : 0 < w_l 0 W ∧ HM (w_deed 1 C mk 1 x W) ∧ (w_deed 1 C mk 1 x W).n ≤ W.n + 4 := by
  obtain ⟨h9, h10, h11, h⟩ := h
  have hz : w_len 1 W = (w_l 1 W : Nat) := rfl
  have h0 : 0 < w_l 0 W := by
    rcases h with ⟨h, hb⟩ | ⟨N, t, h⟩ | ⟨N, t, h⟩
    · obtain ⟨i7, i2, i3, i4, i5, i8, i0⟩ := h
      omega
    · obtain ⟨a7, a3, a5, a2, a4, a0, a8, a6⟩ := h
      omega
    · obtain ⟨a7, a2, a4, a5, a3, a0, a8, ag, a6⟩ := h
      omega
  have hne : W.R 0 ≠ [] := fun z => by have := w_nil' z; omega
  obtain ⟨W0, hW0⟩ : ∃ W0, W0 = w_S 11 (W.S 11 - 1) W := ⟨_, rfl⟩
  obtain ⟨W1, hW1⟩ : ∃ W1, W1 = w_chg 1 mk 1 x W := ⟨_, rfl⟩
  have hd : w_deed 1 C mk 1 x W = w_one mk W1 := by rw [hW1]; rfl
  have hc : W1 = w_pop 0 (w_dis W0) := by
    rw [hW1, w_chg1 mk x W rfl, ← hW0, if_neg (by rw [w_dis_R W0 (by decide), hW0]; exact hne)]
  refine ⟨h0, ?_⟩
  rw [hd]
  have ds := w_dis_S W0
  have s6 : W1.S 6 = W.S 6 - 1 := by rw [hc]; show (w_dis W0).S 6 = _; rw [ds.1, hW0]; rfl
  have s9 : W1.S 9 = 0 := by rw [hc]; show (w_dis W0).S 9 = _; rw [ds.2.2.1, hW0]; exact h9
  have s10 : W1.S 10 = 0 := by rw [hc]; show (w_dis W0).S 10 = _; rw [ds.2.2.2.1, hW0]; exact h10
  have s11 : W1.S 11 = W.S 11 - 1 := by rw [hc]; show (w_dis W0).S 11 = _; rw [ds.2.2.2.2, hW0]; rfl
  have l1 : w_l 1 W1 = w_l 1 W := by rw [hc]; show ((w_dis W0).R 1).length = _; rw [w_dis_R W0 (by decide), hW0]; rfl
  have l0 : w_l 0 W1 = w_l 0 W - 1 := by
    rw [hc, w_tl]
    show ((w_dis W0).R 0).length - 1 = _
    rw [w_dis_R W0 (by decide), hW0]
    rfl
  have lk : ∀ k, k ≠ 0 → k ≠ 5 → w_l k W1 = w_l k W := fun k k0 k5 => by
    rw [hc]
    show ((zu (w_dis W0).R 0 _) k).length = _
    rw [zu_n _ _ k0, w_dis_R W0 k5, hW0]
    rfl
  have l2 := lk 2 (by decide) (by decide)
  have l3 := lk 3 (by decide) (by decide)
  have l4 := lk 4 (by decide) (by decide)
  have hn : W1.n = W.n := by rw [hc]; show (w_dis W0).n = _; rw [w_dis_n, hW0]; rfl
  have hl' : w_len 1 W1 = w_len 1 W := by show (w_l 1 W1 : Int) = (w_l 1 W : Int); omega
  have kk := HM_one (mk := mk) (W := W1) s9 s10 (by omega) (by
    rcases h with ⟨h, hb⟩ | ⟨N, t, h⟩ | ⟨N, t, h⟩
    · obtain ⟨i7, i2, i3, i4, i5, i8, i0⟩ := h
      have e : w_dis W0 = w_S 6 (W0.S 6 - 1) W0 := by
        unfold w_dis
        have z : W0.S 7 = 0 := by rw [hW0]; exact i7
        rw [if_neg (fun y => by rw [z] at y; exact absurd y.1 (by decide)), if_neg (fun y => by rw [z] at y; exact y.elim (by decide) (by decide))]
      have z5 : w_l 5 W1 = w_l 5 W := by rw [hc, e, hW0]; rfl
      have z7 : W1.S 7 = W.S 7 := by rw [hc, e, hW0]; rfl
      have z8 : W1.S 8 = W.S 8 := by rw [hc, e, hW0]; rfl
      exact Or.inl ⟨⟨by omega, by omega, by omega, by omega, by omega, by omega, by omega⟩, by omega⟩
    · obtain ⟨a7, a3, a5, a2, a4, a0, a8, a6⟩ := h
      have e : w_dis W0 = w_S 8 (W0.S 8 - 1) (w_S 6 (W0.S 6 - 1) W0) := by
        unfold w_dis
        have z : W0.S 7 = 1 := by rw [hW0]; exact a7
        rw [if_neg (fun y => by rw [z] at y; exact absurd y.1 (by decide)), if_pos (Or.inl z)]
      have z5 : w_l 5 W1 = w_l 5 W := by rw [hc, e, hW0]; rfl
      have z7 : W1.S 7 = W.S 7 := by rw [hc, e, hW0]; rfl
      have z8 : W1.S 8 = W.S 8 - 1 := by rw [hc, e, hW0]; rfl
      exact Or.inr ⟨2 * (t + w_l 1 W + 1), N, t + 1, Or.inl ⟨by omega, by omega, by omega, by omega, by omega, by omega, by omega, by omega⟩, by omega, by omega⟩
    · obtain ⟨a7, a2, a4, a5, a3, a0, a8, ag, a6⟩ := h
      by_cases g : W.S 8 = 0
      · have e : w_dis W0 = w_S 7 3 (w_pop 5 (w_S 6 (W0.S 6 - 1) W0)) := by
          have z : W0.S 7 = 2 := by rw [hW0]; exact a7
          have z2 : W0.S 8 = 0 := by rw [hW0]; exact g
          exact if_pos ⟨z, z2⟩
        have z5 : w_l 5 W1 = w_l 5 W - 1 := by
          rw [hc, e]
          show ((zu W0.R 5 (W0.R 5).tail) 5).length = _
          rw [zu_s, List.length_tail, hW0]
          rfl
        have z7 : W1.S 7 = 3 := by rw [hc, e, hW0]; rfl
        exact Or.inr ⟨2 * (t + w_l 1 W + 1), N, t + 1, Or.inr (Or.inr ⟨z7, by omega, by omega, by omega⟩), by omega, by omega⟩
      · have e : w_dis W0 = w_S 8 (W0.S 8 - 1) (w_S 6 (W0.S 6 - 1) W0) := by
          unfold w_dis
          have z : W0.S 7 = 2 := by rw [hW0]; exact a7
          have z2 : W0.S 8 ≠ 0 := by rw [hW0]; exact g
          rw [if_neg (fun y => z2 y.2), if_pos (Or.inr z)]
        have z5 : w_l 5 W1 = w_l 5 W := by rw [hc, e, hW0]; rfl
        have z7 : W1.S 7 = W.S 7 := by rw [hc, e, hW0]; rfl
        have z8 : W1.S 8 = W.S 8 - 1 := by rw [hc, e, hW0]; rfl
        exact Or.inr ⟨2 * (t + w_l 1 W + 1), N, t + 1, Or.inr (Or.inl ⟨by omega, by omega, by omega, by omega, by omega, by omega, by omega, by omega, by omega⟩), by omega, by omega⟩)
  exact ⟨kk.1, by omega⟩
end
section
/-! LAW 0 and LAW 2: what stays -/
theorem m_mvs {mk : Int} {i j : Nat} (hij : i ≠ j) : ∀ (r : Nat) (W : zz_W), r ≤ w_l i W → w_l i (w_mvs mk i j r W) + r = w_l i W ∧ w_l j (w_mvs mk i j r W) = w_l j W + r ∧ (∀ k, k ≠ i → k ≠ j → (w_mvs mk i j r W).R k = W.R k) ∧ (w_mvs mk i j r W).n = W.n + r ∧ (w_mvs mk i j r W).S = W.S
  | 0, W, _ => ⟨rfl, rfl, fun _ _ _ => rfl, rfl, rfl⟩
  | r + 1, W, h => by
    obtain ⟨a1, a2, a3, a4⟩ := m_mv (mk := mk) (W := W) hij (by omega)
    obtain ⟨b1, b2, b3, b4, b5⟩ := m_mvs (mk := mk) hij r (w_move mk i j W) (by omega)
    refine ⟨?_, ?_, fun k h1 h2 => (b3 k h1 h2).trans (a3 k h1 h2), ?_, b5.trans (w_move_S mk i j W)⟩
    · show w_l i (w_mvs mk i j r (w_move mk i j W)) + (r + 1) = _
      omega
    · show w_l j (w_mvs mk i j r (w_move mk i j W)) = _
      omega
    · show (w_mvs mk i j r (w_move mk i j W)).n = _
      omega
/-- LAW 0 -/
def ZM (W : zz_W) : Prop := (∀ j, 6 ≤ j → j < 11 → W.S j = 0) ∧ (∀ k, 2 ≤ k → k < 6 → W.R k = []) ∧ W.S 11 = (w_l 0 W : Int) + (w_l 1 W : Nat)
theorem ZM_all {mk : Int} {W : zz_W} (h : ZM W) : ZM (w_all mk W) ∧ (w_all mk W).S 11 = W.S 11 ∧ (w_all mk W).n + w_l 1 (w_all mk W) ≤ W.n + w_l 1 W ∧ ((w_all mk W).n : Int) ≤ W.n + W.S 11 := by
  obtain ⟨h1, h2, h3⟩ := h
  unfold w_all
  by_cases e : W.R 0 = []
  · rw [if_pos e]
    obtain ⟨a1, a2, a3, a4, a5⟩ := m_mvs (mk := mk) (i := 1) (j := 0) (by decide) (W.R 1).length W (Nat.le_refl _)
    have a6 : (W.R 1).length = w_l 1 W := rfl
    refine ⟨⟨fun j x y => by rw [a5]; exact h1 j x y, fun k x y => by rw [a3 k (by omega) (by omega)]; exact h2 k x y, ?_⟩, by rw [a5], by omega, by omega⟩
    rw [a5]
    omega
  · rw [if_neg e]
    exact ⟨⟨h1, h2, h3⟩, rfl, Nat.le_refl _, by omega⟩
/-- LAW 2 -/
def EM (B : Nat) (W : zz_W) : Prop := (∀ j, 6 ≤ j → j < 9 → W.S j = 0) ∧ (∀ k, 2 ≤ k → k < 6 → W.R k = []) ∧ W.S 11 = (w_l 0 W : Int) + (w_l 1 W : Nat) ∧ 0 ≤ W.S 9 ∧ W.S 9 ≤ B ∧ 0 ≤ W.S 10 ∧ W.S 10 ≤ B
theorem m_spl {mk : Int} {i j : Nat} {W : zz_W} (hij : (i = 0 ∧ j = 1) ∨ (i = 1 ∧ j = 0)) : w_l i (w_spl mk i j W) = (w_l i W + w_l j W) / 2 ∧ w_l j (w_spl mk i j W) = (w_l i W + w_l j W) - (w_l i W + w_l j W) / 2 ∧ (∀ k, 2 ≤ k → (w_spl mk i j W).R k = W.R k) ∧ (w_spl mk i j W).n = W.n + (w_l i W + w_l j W) ∧ (∀ k, k ≠ 9 → k ≠ 10 → (w_spl mk i j W).S k = W.S k) ∧ (w_spl mk i j W).S 9 = (w_l 0 (w_spl mk i j W) : Int) ∧ (w_spl mk i j W).S 10 = (w_l 1 (w_spl mk i j W) : Int) := by
  have hL : (w_laid i j W).length = w_l i W + w_l j W := w_laid_len i j W
  have hne : i ≠ j := by omega
  obtain ⟨W0, hW0⟩ : ∃ W0, W0 = w_R j [] (w_R i [] W) := ⟨_, rfl⟩
  obtain ⟨s1, s2, s3, s4⟩ := w_pus_R (mk := mk) (k := i) ((w_laid i j W).take ((w_laid i j W).length / 2)) W0
  obtain ⟨W1, hW1⟩ : ∃ W1, W1 = w_pus mk i ((w_laid i j W).take ((w_laid i j W).length / 2)) W0 := ⟨_, rfl⟩
  rw [← hW1] at s1 s2 s3 s4
  obtain ⟨t1, t2, t3, t4⟩ := w_pus_R (mk := mk) (k := j) ((w_laid i j W).drop ((w_laid i j W).length / 2)).reverse W1
  obtain ⟨W2, hW2⟩ : ∃ W2, W2 = w_pus mk j ((w_laid i j W).drop ((w_laid i j W).length / 2)).reverse W1 := ⟨_, rfl⟩
  rw [← hW2] at t1 t2 t3 t4
  have e : w_spl mk i j W = w_S 10 (w_len 1 W2) (w_S 9 (w_len 0 W2) W2) := by rw [hW2, hW1, hW0]; rfl
  have r0 : W0.R i = [] := by
    rw [hW0]
    show (zu (zu W.R i []) j []) i = []
    rw [zu_n _ _ hne, zu_s]
  have r1 : W0.R j = [] := by
    rw [hW0]
    show (zu (zu W.R i []) j []) j = []
    rw [zu_s]
  have d1 : (W2.R i).length = (w_l i W + w_l j W) / 2 := by
    rw [t2 i hne, s1, r0, List.length_take, hL, Nat.min_eq_left (Nat.div_le_self _ _)]
    rfl
  have d2 : (W2.R j).length = (w_l i W + w_l j W) - (w_l i W + w_l j W) / 2 := by
    rw [t1, s2 j (Ne.symm hne), r1, List.length_reverse, List.length_drop, hL]
    rfl
  have d3 : W2.n = W.n + (w_l i W + w_l j W) := by
    rw [t3, s3, List.length_reverse, List.length_drop, List.length_take, hL, Nat.min_eq_left (Nat.div_le_self _ _), hW0]
    show W.n + _ + _ = _
    have := Nat.div_le_self (w_l i W + w_l j W) 2
    omega
  rw [e]
  refine ⟨d1, d2, fun k hk => ?_, d3, fun k h9 h10 => ?_, rfl, rfl⟩
  · show W2.R k = _
    rw [t2 k (by omega), s2 k (by omega), hW0]
    show (zu (zu W.R i []) j []) k = _
    rw [zu_n _ _ (by omega), zu_n _ _ (by omega)]
  · show (zu (zu W2.S 9 _) 10 _) k = _
    rw [zu_n _ _ h10, zu_n _ _ h9, t4, s4, hW0]
    rfl
theorem EM_pay {B : Nat} {sh : Int} {W : zz_W} (hsh : 0 ≤ sh) (h : EM B W) : EM B (w_pay sh W) := by
  obtain ⟨h1, h2, h3, h4, h5, h6, h7⟩ := h
  refine ⟨fun j x y => ?_, h2, ?_, ?_, ?_, ?_, ?_⟩
  · show (zu (zu W.S 9 _) 10 _) j = 0
    rw [zu_n _ _ (by omega), zu_n _ _ (by omega)]
    exact h1 j x y
  · exact h3
  · show 0 ≤ W.S 9 - min (W.S 9) sh
    omega
  · show W.S 9 - min (W.S 9) sh ≤ B
    omega
  · show 0 ≤ W.S 10 - min (W.S 10) sh
    omega
  · show W.S 10 - min (W.S 10) sh ≤ B
    omega
def w_gap (W : zz_W) : Nat := (w_l 0 W - w_l 1 W) + (w_l 1 W - w_l 0 W)
theorem EM_spl {mk : Int} {B : Nat} {i j : Nat} {W : zz_W} (hij : (i = 0 ∧ j = 1) ∨ (i = 1 ∧ j = 0)) (h : EM B W) (hB : W.S 11 ≤ B) (hg : 2 * w_l j W + 1 < w_l i W) : EM B (w_spl mk i j W) ∧ (w_spl mk i j W).S 11 = W.S 11 ∧ (w_spl mk i j W).n + 3 * w_gap (w_spl mk i j W) ≤ W.n + 3 * w_gap W + 3 ∧ ((w_spl mk i j W).n : Int) ≤ W.n + W.S 11 := by
  obtain ⟨h1, h2, h3, h4, h5, h6, h7⟩ := h
  obtain ⟨a1, a2, a3, a4, a5, a6, a7⟩ := m_spl (mk := mk) (W := W) hij
  have s11 : (w_spl mk i j W).S 11 = W.S 11 := a5 11 (by decide) (by decide)
  obtain ⟨W2, hW2⟩ : ∃ W2, W2 = w_spl mk i j W := ⟨_, rfl⟩
  rw [← hW2] at a1 a2 a3 a4 a5 a6 a7 s11 ⊢
  unfold w_gap
  rcases hij with ⟨e1, e2⟩ | ⟨e1, e2⟩ <;> subst e1 <;> subst e2 <;>
  · refine ⟨⟨fun j x y => by rw [a5 j (by omega) (by omega)]; exact h1 j x y, fun k x y => by rw [a3 k x]; exact h2 k x y, by omega, by omega, by omega, by omega, by omega⟩, s11, by omega, by omega⟩
theorem EM_evn {mk C : Int} {B : Nat} {W : zz_W} (hC : 2 ≤ C ∧ C ≤ 4) (h : EM B W) (hB : W.S 11 ≤ B) : EM B (w_evn mk C W) ∧ (w_evn mk C W).S 11 = W.S 11 ∧ (w_evn mk C W).n + 3 * w_gap (w_evn mk C W) ≤ W.n + 3 * w_gap W + 3 ∧ ((w_evn mk C W).n : Int) ≤ W.n + W.S 11 := by
  have p0 : w_len 0 W = (w_l 0 W : Nat) := rfl
  have p1 : w_len 1 W = (w_l 1 W : Nat) := rfl
  have hC3 : C = 2 ∨ C = 3 ∨ C = 4 := by omega
  unfold w_evn
  by_cases c1 : C * w_len 1 W + 1 < w_len 0 W
  · rw [if_pos c1]
    exact EM_spl (Or.inl ⟨rfl, rfl⟩) h hB (by rcases hC3 with e | e | e <;> rw [e] at c1 <;> omega)
  · rw [if_neg c1]
    by_cases c2 : C * w_len 0 W + 1 < w_len 1 W
    · rw [if_pos c2]
      exact EM_spl (Or.inr ⟨rfl, rfl⟩) h hB (by rcases hC3 with e | e | e <;> rw [e] at c2 <;> omega)
    · rw [if_neg c2]
      refine ⟨h, rfl, by omega, ?_⟩
      have := h.2.2.1
      omega
end
section
/-! a VERSION: what holds of it after any deed -/
theorem m_chg {law mk kind x : Int} {W : zz_W} (hl : law ≠ 1) (hk : 0 ≤ kind ∧ kind ≤ 3) (h11 : W.S 11 = (w_l 0 W : Int) + (w_l 1 W : Nat)) (hpos : kind = 1 ∨ kind = 3 → 0 < W.S 11) : (∀ j, j ≠ 11 → (w_chg law mk kind x W).S j = W.S j) ∧ (∀ k, 2 ≤ k → (w_chg law mk kind x W).R k = W.R k) ∧ (w_chg law mk kind x W).S 11 = (w_l 0 (w_chg law mk kind x W) : Int) + (w_l 1 (w_chg law mk kind x W) : Nat) ∧ (w_chg law mk kind x W).n ≤ W.n + 1 ∧ w_gap (w_chg law mk kind x W) ≤ w_gap W + 1 ∧ w_l 1 (w_chg law mk kind x W) ≤ w_l 1 W + 1 := by
  have h : kind = 0 ∨ kind = 1 ∨ kind = 2 ∨ kind = 3 := by omega
  unfold w_gap
  rcases h with h | h | h | h <;> subst h
  · rw [w_chg0]
    have e0 : w_l 0 (w_push mk 1 x (w_S 11 (W.S 11 + 1) W)) = w_l 0 W := rfl
    have e1 : w_l 1 (w_push mk 1 x (w_S 11 (W.S 11 + 1) W)) = w_l 1 W + 1 := rfl
    refine ⟨fun j hj => zu_n _ _ hj, fun k hk => zu_n _ _ (by omega), ?_, Nat.le_refl _, by omega, by omega⟩
    show W.S 11 + 1 = _
    omega
  · rw [w_chg1n mk x W hl]
    have hp := hpos (Or.inl rfl)
    by_cases e : W.R 0 = []
    · rw [if_pos e]
      have z := w_nil' e
      have e0 : w_l 0 (w_pop 1 (w_S 11 (W.S 11 - 1) W)) = w_l 0 W := rfl
      have e1 : w_l 1 (w_pop 1 (w_S 11 (W.S 11 - 1) W)) = w_l 1 W - 1 := w_tl (W := w_S 11 (W.S 11 - 1) W)
      refine ⟨fun j hj => zu_n _ _ hj, fun k hk => zu_n _ _ (by omega), ?_, Nat.le_succ _, by omega, by omega⟩
      show W.S 11 - 1 = _
      omega
    · rw [if_neg e]
      have z : 0 < w_l 0 W := Nat.pos_of_ne_zero (fun y => e (w_nil y))
      have e0 : w_l 0 (w_pop 0 (w_S 11 (W.S 11 - 1) W)) = w_l 0 W - 1 := w_tl (W := w_S 11 (W.S 11 - 1) W)
      have e1 : w_l 1 (w_pop 0 (w_S 11 (W.S 11 - 1) W)) = w_l 1 W := rfl
      refine ⟨fun j hj => zu_n _ _ hj, fun k hk => zu_n _ _ (by omega), ?_, Nat.le_succ _, by omega, by omega⟩
      show W.S 11 - 1 = _
      omega
  · rw [w_chg2]
    have e0 : w_l 0 (w_push mk 0 x (w_S 11 (W.S 11 + 1) W)) = w_l 0 W + 1 := rfl
    have e1 : w_l 1 (w_push mk 0 x (w_S 11 (W.S 11 + 1) W)) = w_l 1 W := rfl
    refine ⟨fun j hj => zu_n _ _ hj, fun k hk => zu_n _ _ (by omega), ?_, Nat.le_refl _, by omega, by omega⟩
    show W.S 11 + 1 = _
    omega
  · rw [w_chg3]
    have hp := hpos (Or.inr rfl)
    by_cases e : W.R 1 = []
    · rw [if_pos e]
      have z := w_nil' e
      have e0 : w_l 0 (w_pop 0 (w_S 11 (W.S 11 - 1) W)) = w_l 0 W - 1 := w_tl (W := w_S 11 (W.S 11 - 1) W)
      have e1 : w_l 1 (w_pop 0 (w_S 11 (W.S 11 - 1) W)) = w_l 1 W := rfl
      refine ⟨fun j hj => zu_n _ _ hj, fun k hk => zu_n _ _ (by omega), ?_, Nat.le_succ _, by omega, by omega⟩
      show W.S 11 - 1 = _
      omega
    · rw [if_neg e]
      have z : 0 < w_l 1 W := Nat.pos_of_ne_zero (fun y => e (w_nil y))
      have e0 : w_l 0 (w_pop 1 (w_S 11 (W.S 11 - 1) W)) = w_l 0 W := rfl
      have e1 : w_l 1 (w_pop 1 (w_S 11 (W.S 11 - 1) W)) = w_l 1 W - 1 := w_tl (W := w_S 11 (W.S 11 - 1) W)
      refine ⟨fun j hj => zu_n _ _ hj, fun k hk => zu_n _ _ (by omega), ?_, Nat.le_succ _, by omega, by omega⟩
      show W.S 11 - 1 = _
      omega
theorem w_trn_S11 (mk : Int) (W : zz_W) : (w_trn mk W).S 11 = W.S 11 := by
  unfold w_trn
  split
  · split
    · rw [w_move_S]
      rfl
    · rw [w_move_S]
      show (w_move mk 2 3 W).S 11 = _
      rw [w_move_S]
  · split
    · split
      · show (w_move mk 3 5 W).S 11 = _
        rw [w_move_S]
      · rfl
    · rfl
theorem w_one_S11 (mk : Int) (W : zz_W) : (w_one mk W).S 11 = W.S 11 := by
  have h1 : (w_b W).S 11 = W.S 11 := by
    unfold w_b
    split <;> rfl
  have h2 : ∀ V : zz_W, (w_fin V).S 11 = V.S 11 := fun V => by
    unfold w_fin
    split <;> rfl
  show (w_fin (w_trn mk (w_trn mk (w_b W)))).S 11 = _
  rw [h2, w_trn_S11, w_trn_S11, h1]
/-- what holds of a VERSION by a LAW, B deeds having been done at most -/
def IV (law : Int) (B : Nat) (W : zz_W) : Prop := ((law = 0 ∧ ZM W) ∨ (law = 1 ∧ HM W) ∨ (law = 2 ∧ EM B W)) ∧ 0 ≤ W.S 11 ∧ W.S 11 ≤ B
def w_phi (law : Int) (W : zz_W) : Nat := if law = 0 then w_l 1 W else if law = 1 then 0 else 3 * w_gap W
theorem w_phi_0 {law : Int} {W : zz_W} (h : law = 0) : w_phi law W = w_l 1 W := if_pos h
theorem w_phi_1 {law : Int} {W : zz_W} (h : law = 1) : w_phi law W = 0 := (if_neg (by omega)).trans (if_pos h)
theorem w_phi_2 {law : Int} {W : zz_W} (h : law = 2) : w_phi law W = 3 * w_gap W := (if_neg (by omega)).trans (if_neg (by omega))
theorem w_sg {kind : Int} : (if kind = 0 ∨ kind = 2 then (1 : Int) else -1) = 1 ∧ (kind = 0 ∨ kind = 2) ∨ (if kind = 0 ∨ kind = 2 then (1 : Int) else -1) = -1 ∧ ¬ (kind = 0 ∨ kind = 2) := by
  by_cases h : kind = 0 ∨ kind = 2
  · exact Or.inl ⟨if_pos h, h⟩
  · exact Or.inr ⟨if_neg h, h⟩
theorem IV_deed {law C mk kind x : Int} {B : Nat} {W : zz_W} (h : IV law B W) (hC : 2 ≤ C ∧ C ≤ 4) (hk : 0 ≤ kind ∧ kind ≤ 3) (hkl : law ≠ 2 → kind ≤ 1) (hpos : kind = 1 ∨ kind = 3 → 0 < W.S 11) :
    IV law (B + 1) (w_deed law C mk kind x W) ∧ (w_deed law C mk kind x W).S 11 = W.S 11 + (if kind = 0 ∨ kind = 2 then 1 else -1) ∧ (w_deed law C mk kind x W).n + w_phi law (w_deed law C mk kind x W) ≤ W.n + w_phi law W + 7 ∧ (law ≠ 1 → ((w_deed law C mk kind x W).n : Int) ≤ W.n + 1 + (w_deed law C mk kind x W).S 11) ∧ (law = 1 → (w_deed law C mk kind x W).n ≤ W.n + 5) := by
  obtain ⟨h, hp, hb⟩ := h
  have hsg := w_sg (kind := kind)
  obtain ⟨-, -, -, -, -, hc11, -⟩ := w_chg_B law mk kind x W hk
  rcases h with ⟨hl, h⟩ | ⟨hl, h⟩ | ⟨hl, h⟩
  · obtain ⟨z1, z2, z3⟩ := h
    obtain ⟨c1, c2, c3, c4, c5, c6⟩ := m_chg (law := law) (mk := mk) (x := x) (by omega) hk z3 hpos
    obtain ⟨d1, d2, d3, d4⟩ := w_deed_0 (C := C) (mk := mk) (kind := kind) (x := x) (W := W) hl
    rw [d1]
    obtain ⟨W1, hW1⟩ : ∃ W1, W1 = w_chg law mk kind x W := ⟨_, rfl⟩
    rw [← hW1] at c1 c2 c3 c4 c5 c6 hc11 ⊢
    have zm : ZM W1 := ⟨fun j a b => by rw [c1 j (by omega)]; exact z1 j a b, fun k a b => by rw [c2 k a]; exact z2 k a b, c3⟩
    obtain ⟨a1, a2, a3, a4⟩ := ZM_all (mk := mk) zm
    rw [w_phi_0 hl, w_phi_0 hl]
    exact ⟨⟨Or.inl ⟨hl, a1⟩, by omega, by omega⟩, by omega, by omega, fun _ => by omega, fun z => by omega⟩
  · obtain ⟨d1, d2, d3, d4⟩ := w_deed_1 (C := C) (mk := mk) (kind := kind) (x := x) (W := W) hl
    have s11 : (w_deed law C mk kind x W).S 11 = W.S 11 + (if kind = 0 ∨ kind = 2 then 1 else -1) := by rw [d1, w_one_S11, hc11]
    have hk2 : kind = 0 ∨ kind = 1 := by omega
    rw [w_phi_1 hl, w_phi_1 hl]
    rcases hk2 with e | e
    · subst e
      subst hl
      obtain ⟨a1, a2⟩ := HM_put (mk := mk) (C := C) (x := x) h
      exact ⟨⟨Or.inr (Or.inl ⟨rfl, a1⟩), by omega, by omega⟩, s11, by omega, fun z => absurd rfl z, fun _ => a2⟩
    · subst e
      subst hl
      have hp1 := hpos (Or.inl rfl)
      obtain ⟨a0, a1, a2⟩ := HM_take (mk := mk) (C := C) (x := x) h hp1
      exact ⟨⟨Or.inr (Or.inl ⟨rfl, a1⟩), by omega, by omega⟩, s11, by omega, fun z => absurd rfl z, fun _ => by omega⟩
  · obtain ⟨z1, z2, z3, z4, z5, z6, z7⟩ := h
    obtain ⟨c1, c2, c3, c4, c5, c6⟩ := m_chg (law := law) (mk := mk) (x := x) (by omega) hk z3 hpos
    obtain ⟨d1, d2, d3, d4⟩ := w_deed_2 (C := C) (mk := mk) (kind := kind) (x := x) (W := W) (show law ≠ 0 by omega) (by omega)
    rw [d1]
    obtain ⟨W1, hW1⟩ : ∃ W1, W1 = w_chg law mk kind x W := ⟨_, rfl⟩
    rw [← hW1] at c1 c2 c3 c4 c5 c6 hc11 ⊢
    have zm : EM (B + 1) W1 := ⟨fun j a b => by rw [c1 j (by omega)]; exact z1 j a b, fun k a b => by rw [c2 k a]; exact z2 k a b, c3, by rw [c1 9 (by decide)]; exact z4, by rw [c1 9 (by decide)]; omega, by rw [c1 10 (by decide)]; exact z6, by rw [c1 10 (by decide)]; omega⟩
    have hsh : 0 ≤ w_sh kind := by
      unfold w_sh
      split <;> decide
    have zp := EM_pay (sh := w_sh kind) hsh zm
    have hb1 : (w_pay (w_sh kind) W1).S 11 ≤ ((B + 1 : Nat) : Int) := by
      show W1.S 11 ≤ _
      omega
    obtain ⟨a1, a2, a3, a4⟩ := EM_evn (mk := mk) hC zp hb1
    have b1 : (w_pay (w_sh kind) W1).S 11 = W1.S 11 := rfl
    have b2 : (w_pay (w_sh kind) W1).n = W1.n := rfl
    have b3 : w_gap (w_pay (w_sh kind) W1) = w_gap W1 := rfl
    rw [w_phi_2 hl, w_phi_2 hl]
    exact ⟨⟨Or.inr (Or.inr ⟨hl, a1⟩), by omega, by omega⟩, by omega, by omega, fun _ => by omega, fun z => by omega⟩
theorem IV_bd {law : Int} {B : Nat} {W : zz_W} (h : IV law B W) : (∀ k, k < 6 → w_l k W ≤ 2 * B + 1) ∧ (∀ j, 6 ≤ j → j < 11 → 0 ≤ W.S j ∧ W.S j ≤ 2 * (B : Int) + 1) ∧ (0 < W.S 11 → 0 < w_l 0 W ∨ 0 < w_l 1 W) := by
  obtain ⟨h, hp, hb⟩ := h
  have c6 : ∀ {P : Nat → Prop}, P 0 → P 1 → P 2 → P 3 → P 4 → P 5 → ∀ k, k < 6 → P k := fun p0 p1 p2 p3 p4 p5 k hk => by
    match k, hk with
    | 0, _ => exact p0
    | 1, _ => exact p1
    | 2, _ => exact p2
    | 3, _ => exact p3
    | 4, _ => exact p4
    | 5, _ => exact p5
  have c5 : ∀ {P : Nat → Prop}, P 6 → P 7 → P 8 → P 9 → P 10 → ∀ k, 6 ≤ k → k < 11 → P k := fun p0 p1 p2 p3 p4 k h1 h2 => by
    match k, h1, h2 with
    | 6, _, _ => exact p0
    | 7, _, _ => exact p1
    | 8, _, _ => exact p2
    | 9, _, _ => exact p3
    | 10, _, _ => exact p4
  have hz : w_len 1 W = (w_l 1 W : Nat) := rfl
  rcases h with ⟨hl, h⟩ | ⟨hl, h⟩ | ⟨hl, h⟩
  · obtain ⟨z1, z2, z3⟩ := h
    refine ⟨c6 (by omega) (by omega) ?_ ?_ ?_ ?_, fun j a b => by rw [z1 j a b]; omega, fun _ => by omega⟩ <;> rw [w_nil' (z2 _ (by decide) (by decide))] <;> omega
  · obtain ⟨h9, h10, h11, h⟩ := h
    rcases h with ⟨h, hb⟩ | ⟨N, t, h⟩ | ⟨N, t, h⟩
    · obtain ⟨i7, i2, i3, i4, i5, i8, i0⟩ := h
      exact ⟨c6 (by omega) (by omega) (by omega) (by omega) (by omega) (by omega), c5 (by omega) (by omega) (by omega) (by omega) (by omega), fun _ => by omega⟩
    · obtain ⟨a7, a3, a5, a2, a4, a0, a8, a6⟩ := h
      exact ⟨c6 (by omega) (by omega) (by omega) (by omega) (by omega) (by omega), c5 (by omega) (by omega) (by omega) (by omega) (by omega), fun _ => by omega⟩
    · obtain ⟨a7, a2, a4, a5, a3, a0, a8, ag, a6⟩ := h
      exact ⟨c6 (by omega) (by omega) (by omega) (by omega) (by omega) (by omega), c5 (by omega) (by omega) (by omega) (by omega) (by omega), fun _ => by omega⟩
  · obtain ⟨z1, z2, z3, z4, z5, z6, z7⟩ := h
    refine ⟨c6 (by omega) (by omega) ?_ ?_ ?_ ?_, c5 (by rw [z1 6 (by decide) (by decide)]; omega) (by rw [z1 7 (by decide) (by decide)]; omega) (by rw [z1 8 (by decide) (by decide)]; omega) (by omega) (by omega), fun _ => by omega⟩ <;> rw [w_nil' (z2 _ (by decide) (by decide))] <;> omega
end
section
/-! rows of numbers -/
/-- a queue: how many, its numbers by their places -/
abbrev zq_T : Type := Nat × (Nat → Int)
def zq_ins (pl : Nat) (x : Int) (q : zq_T) : zq_T := (q.1 + 1, fun i => if i < pl then q.2 i else if i = pl then x else q.2 (i - 1))
def zq_rem (pl : Nat) (q : zq_T) : zq_T := (q.1 - 1, fun i => if i < pl then q.2 i else q.2 (i + 1))
def zq_chg (kind x : Int) (q : zq_T) : zq_T := if kind = 0 then zq_ins q.1 x q else if kind = 2 then zq_ins 0 x q else if kind = 1 then zq_rem 0 q else zq_rem (q.1 - 1) q
def zq_num (kind x : Int) (q : zq_T) : Int := if kind = 0 ∨ kind = 2 then x else if kind = 1 then q.2 0 else q.2 (q.1 - 1)
def zq_eq (q q' : zq_T) : Prop := q.1 = q'.1 ∧ ∀ i, i < q.1 → q.2 i = q'.2 i
/-- the class's numbers at a are a queue -/
def QR (σ : zz_M) (a : Nat) (q : zq_T) : Prop := σ.1 500 a = (q.1 : Nat) ∧ ∀ i, i < q.1 → σ.2 (a + 1) i = q.2 i
abbrev zz_A2 (a : Nat) : Nat → Prop := fun c => c = a ∨ c = a + 1
theorem QR.f {A : Nat → Prop} {σ σ' : zz_M} {a : Nat} {q : zq_T} (h : QR σ a q) (hF : zz_F A σ σ') (h0 : ¬ A a) (h1 : ¬ A (a + 1)) : QR σ' a q := ⟨((hF a h0).1 500).trans h.1, fun i hi => ((hF (a + 1) h1).2 i).trans (h.2 i hi)⟩
theorem lp_nbec {X : zz_X} {p p' a b n : Nat} {f : Nat → Int} {σ0 : zz_M} {Post : Option zz_V → zz_M → Prop} (hab : a + 1 < b ∨ b + 1 < a) (hn : n ≤ p) (hn' : n ≤ p') (hb : n < 100000) (k : ∀ σ' : zz_M, σ'.1 500 a = ((n : Nat) : Int) → (∀ j, j < n → σ'.2 (a + 1) j = f j) → zz_F (zz_A2 a) σ0 σ' → Post none σ') :
    ∀ (r i : Nat) (σ : zz_M), i + r = n → σ.1 500 a = (n : Nat) → σ.1 500 b = (n : Nat) → (∀ j, j < n → σ.2 (b + 1) j = f j) → (∀ j, j < i → σ.2 (a + 1) j = f j) → zz_F (zz_A2 a) σ0 σ → zz_G X 2 p_Numbers_become 10 [zP 5 p 0 a, zP 5 p' 0 b, zI (i : Nat)] [] σ Post := by
  intro r
  induction r with
  | zero =>
    intro i σ hi h1 h2 h3 h4 hF
    refine zz_gsn 3 rfl ?_
    refine zz_br rfl (fun h13 => ?_) (fun h13 => absurd h13 (by omega))
    refine zz_rv rfl rfl ?_
    exact k σ h1 (fun j hj => h4 j (by omega)) hF
  | succ r ih =>
    intro i σ hi h1 h2 h3 h4 hF
    refine zz_gsn 3 rfl ?_
    refine zz_br rfl (fun h13 => absurd h13 (by omega)) (fun h13 => ?_)
    refine zz_gsn 5 rfl ?_
    refine zz_cv (n := 2) rfl rfl (t_Numbers_numberAt) (Nat.le_of_ble_eq_true rfl) (Nat.le_of_ble_eq_true rfl) (Nat.le_of_ble_eq_true rfl) (fun r19 σ19 q19 => ?_)
    obtain ⟨rfl, n19, rfl, e19⟩ := q19
    refine zz_ast rfl (by omega) ?_
    refine zz_gsn 1 rfl ?_
    refine zz_jp rfl ?_
    have ei : zw ((i : Int) + 1) = ((i + 1 : Nat) : Int) := by rw [zw_id (by omega) (by omega)]; omega
    rw [ei]
    refine ih (i + 1) _ (by omega) h1 h2 (fun j hj => by rw [sa_a _ _ (by omega)]; exact h3 j hj) (fun j hj => ?_) (hF.tr (zz_F.sa (Or.inr rfl)))
    rw [Int.toNat_natCast]
    by_cases e : j = i
    · subst e
      rw [sa_h]
      rcases e19 with ⟨-, -, -, e19⟩ | ⟨e19, -⟩
      · rw [e19, Int.toNat_natCast]
        exact h3 j (by omega)
      · exact absurd ⟨by omega, by omega, by omega⟩ e19
    · rw [sa_i _ _ e]
      exact h4 j (by omega)
theorem t_Numbers_become {X : zz_X} {σ : zz_M} {p p' a b : Nat} {q : zq_T} (hq : QR σ b q) (hab : a + 1 < b ∨ b + 1 < a) (hp : q.1 ≤ p) (hp' : q.1 ≤ p') (hb : q.1 < 100000) (hpb : p < 100000) : zz_T X 2 p_Numbers_become [zP 5 p 0 a, zP 5 p' 0 b] σ (fun r σ' => r = none ∧ QR σ' a q ∧ zz_F (zz_A2 a) σ σ') := by
  refine zz_mk k_Numbers_become o_Numbers_become rfl rfl (Nat.le_of_ble_eq_true rfl) ?_
  show zz_G X 2 p_Numbers_become 0 [zP 5 p 0 a, zP 5 p' 0 b, zU] [] σ _
  refine zz_gsn 6 rfl ?_
  refine zz_mth rfl (Nat.le_of_ble_eq_true rfl) (Nat.le_of_ble_eq_true rfl) ?_
  refine zz_gsn 3 rfl ?_
  have em : min (σ.1 500 b) (p : Int) = (q.1 : Nat) := by rw [hq.1]; omega
  refine zz_sge (σ' := zz_sf σ 500 a (q.1 : Nat)) (by rw [← em]) ?_
  exact lp_nbec (f := q.2) (σ0 := σ) hab hp hp' hb (fun σ' x1 x2 x3 => ⟨rfl, ⟨x1, x2⟩, x3⟩) q.1 0 _ (by omega) (sf_h _ _ _ _) (by rw [sf_a _ _ (by omega)]; exact hq.1) hq.2 (fun j hj => absurd hj (Nat.not_lt_zero j)) (zz_F.sf (Or.inl rfl))
end
section
/-! rows of numbers: put in -/
theorem lp_nins {X : zz_X} {p a n pl : Nat} {x : Int} {f : Nat → Int} {σ0 : zz_M} {Post : Option zz_V → zz_M → Prop} (hn : n < p) (hpl : pl ≤ n) (hb : p < 100000) (k : ∀ σ', QR σ' a (zq_ins pl x (n, f)) → zz_F (zz_A2 a) σ0 σ' → Post none σ') :
    ∀ (r i : Nat) (σ : zz_M), i = pl + r → i ≤ n → σ.1 500 a = (n : Nat) → (∀ j, j < i → σ.2 (a + 1) j = f j) → (∀ j, i < j → j ≤ n → σ.2 (a + 1) j = f (j - 1)) → zz_F (zz_A2 a) σ0 σ → zz_G X 1 p_Numbers_insert 16 [zP 5 p 0 a, zI (pl : Nat), zI x, zI (i : Nat)] [] σ Post := by
  intro r
  induction r with
  | zero =>
    intro i σ hi hin h1 h3 h4 hF
    refine zz_gsn 2 rfl ?_
    refine zz_br rfl (fun h18 => ?_) (fun h18 => absurd h18 (by omega))
    refine zz_gsn 4 rfl ?_
    refine zz_ast rfl (by omega) ?_
    refine zz_gsn 6 rfl ?_
    refine zz_rv rfl rfl ?_
    refine k _ ⟨?_, fun j hj => ?_⟩ ((hF.tr (zz_F.sa (Or.inr rfl))).tr (zz_F.sf (Or.inl rfl)))
    · rw [sf_h]
      show zw (σ.1 500 a + 1) = ((n + 1 : Nat) : Int)
      rw [h1, zw_id (by omega) (by omega)]
      omega
    · have hj2 : j < n + 1 := hj
      rw [Int.toNat_natCast]
      show (zz_sa σ (a + 1) pl x).2 (a + 1) j = if j < pl then f j else if j = pl then x else f (j - 1)
      by_cases e : j = pl
      · subst e
        rw [sa_h, if_neg (Nat.lt_irrefl j), if_pos rfl]
      · rw [sa_i _ _ e]
        by_cases e2 : j < pl
        · rw [if_pos e2]
          exact h3 j (by omega)
        · rw [if_neg e2, if_neg e]
          exact h4 j (by omega) (by omega)
  | succ r ih =>
    intro i σ hi hin h1 h3 h4 hF
    have eb : zw ((i : Int) - 1) = ((i - 1 : Nat) : Int) := by rw [zw_id (by omega) (by omega)]; omega
    have eb2 : zw ((i : Int) + -1) = ((i - 1 : Nat) : Int) := by rw [zw_id (by omega) (by omega)]; omega
    refine zz_gsn 2 rfl ?_
    refine zz_br rfl (fun h18 => absurd h18 (by omega)) (fun h18 => ?_)
    refine zz_gsn 8 rfl ?_
    refine zz_ald rfl (by rw [eb]; omega) ?_
    refine zz_ast rfl (by omega) ?_
    refine zz_gsn 1 rfl ?_
    refine zz_jp rfl ?_
    rw [eb2, eb]
    refine ih (i - 1) _ (by omega) (by omega) h1 (fun j hj => ?_) (fun j hj hj2 => ?_) (hF.tr (zz_F.sa (Or.inr rfl)))
    · rw [Int.toNat_natCast, sa_i _ _ (by omega)]
      exact h3 j (by omega)
    · rw [Int.toNat_natCast]
      by_cases e : j = i
      · subst e
        rw [sa_h, Int.toNat_natCast]
        exact h3 _ (by omega)
      · rw [sa_i _ _ e]
        exact h4 j (by omega) hj2
theorem t_Numbers_insert {X : zz_X} {σ : zz_M} {p a pl : Nat} {x : Int} {q : zq_T} (hq : QR σ a q) (hp : q.1 < p) (hpl : pl ≤ q.1) (hb : p < 100000) : zz_T X 1 p_Numbers_insert [zP 5 p 0 a, zI (pl : Nat), zI x] σ (fun r σ' => r = none ∧ QR σ' a (zq_ins pl x q) ∧ zz_F (zz_A2 a) σ σ') := by
  refine zz_mk k_Numbers_insert o_Numbers_insert rfl rfl (Nat.le_of_ble_eq_true rfl) ?_
  show zz_G X 1 p_Numbers_insert 0 [zP 5 p 0 a, zI (pl : Nat), zI x, zU] [] σ _
  have hq1 := hq.1
  refine zz_gsn 5 rfl ?_
  refine zz_br rfl (fun h5 => absurd h5 (by omega)) (fun h5 => ?_)
  refine zz_gsn 1 rfl ?_
  refine zz_br rfl (fun h7 => absurd h7 (by omega)) (fun h7 => ?_)
  refine zz_gsn 3 rfl ?_
  refine zz_br rfl (fun h11 => ?_) (fun h11 => absurd h11 (by omega))
  refine zz_gsn 3 rfl ?_
  rw [hq1]
  exact lp_nins (f := q.2) (σ0 := σ) (n := q.1) hp hpl hb (fun σ' x1 x2 => ⟨rfl, x1, x2⟩) (q.1 - pl) q.1 _ (by omega) (Nat.le_refl _) hq.1 hq.2 (fun j hj hj2 => absurd hj (by omega)) zz_F.rf
end
section
/-! rows of numbers: taken out -/
theorem lp_nrem {X : zz_X} {p a n pl : Nat} {u : Int} {f : Nat → Int} {σ0 : zz_M} {Post : Option zz_V → zz_M → Prop} (hn : n + 1 ≤ p) (hpl : pl ≤ n) (hb : p < 100000) (k : ∀ σ', QR σ' a (zq_rem pl (n + 1, f)) → zz_F (zz_A2 a) σ0 σ' → Post (some (zI u)) σ') :
    ∀ (r i : Nat) (σ : zz_M), i + r = n → pl ≤ i → σ.1 500 a = (n : Nat) → (∀ j, i ≤ j → j ≤ n → σ.2 (a + 1) j = f j) → (∀ j, j < i → σ.2 (a + 1) j = if j < pl then f j else f (j + 1)) → zz_F (zz_A2 a) σ0 σ → zz_G X 2 p_Numbers_remove 20 [zP 5 p 0 a, zI (pl : Nat), zI u, zI (i : Nat)] [] σ Post := by
  intro r
  induction r with
  | zero =>
    intro i σ hi hin h1 h3 h4 hF
    refine zz_gsn 3 rfl ?_
    refine zz_br rfl (fun h23 => ?_) (fun h23 => absurd h23 (by omega))
    refine zz_gsn 1 rfl ?_
    refine zz_ri rfl (Or.inl rfl) ?_
    exact k _ ⟨h1, fun j hj => h4 j (by have hj2 : j < n + 1 - 1 := hj; omega)⟩ hF
  | succ r ih =>
    intro i σ hi hin h1 h3 h4 hF
    have eb : zw ((i : Int) + 1) = ((i + 1 : Nat) : Int) := by rw [zw_id (by omega) (by omega)]; omega
    refine zz_gsn 3 rfl ?_
    refine zz_br rfl (fun h23 => absurd h23 (by omega)) (fun h23 => ?_)
    refine zz_gsn 8 rfl ?_
    refine zz_ald rfl (by rw [eb]; omega) ?_
    refine zz_ast rfl (by omega) ?_
    refine zz_gsn 1 rfl ?_
    refine zz_jp rfl ?_
    rw [eb]
    refine ih (i + 1) _ (by omega) (by omega) h1 (fun j hj hj2 => ?_) (fun j hj => ?_) (hF.tr (zz_F.sa (Or.inr rfl)))
    · rw [Int.toNat_natCast, sa_i _ _ (by omega)]
      exact h3 j (by omega) hj2
    · rw [Int.toNat_natCast]
      by_cases e : j = i
      · subst e
        rw [sa_h, Int.toNat_natCast, if_neg (by omega)]
        exact h3 _ (by omega) (by omega)
      · rw [sa_i _ _ e]
        exact h4 j (by omega)
theorem t_Numbers_remove {X : zz_X} {σ : zz_M} {p a pl : Nat} {q : zq_T} (hq : QR σ a q) (hp : q.1 ≤ p) (hpl : pl < q.1) (hb : p < 100000) : zz_T X 2 p_Numbers_remove [zP 5 p 0 a, zI (pl : Nat)] σ (fun r σ' => r = some (zI (q.2 pl)) ∧ QR σ' a (zq_rem pl q) ∧ zz_F (zz_A2 a) σ σ') := by
  refine zz_mk k_Numbers_remove o_Numbers_remove rfl rfl (Nat.le_of_ble_eq_true rfl) ?_
  show zz_G X 2 p_Numbers_remove 0 [zP 5 p 0 a, zI (pl : Nat), zU, zU] [] σ _
  have hq1 := hq.1
  refine zz_gsn 2 rfl ?_
  refine zz_cv (n := 2) rfl rfl (t_Numbers_numberAt) (Nat.le_of_ble_eq_true rfl) (Nat.le_of_ble_eq_true rfl) (Nat.le_of_ble_eq_true rfl) (fun r2 σ2 q2 => ?_)
  obtain ⟨rfl, n2, rfl, e2⟩ := q2
  have en : n2 = q.2 pl := by
    rcases e2 with ⟨-, -, -, e2⟩ | ⟨e2, -⟩
    · rw [e2, Int.toNat_natCast]
      exact hq.2 pl hpl
    · exact absurd ⟨by omega, by omega, by omega⟩ e2
  subst en
  refine zz_gsn 2 rfl ?_
  refine zz_br rfl (fun h5 => absurd h5 (by omega)) (fun h5 => ?_)
  refine zz_gsn 3 rfl ?_
  refine zz_br rfl (fun h9 => ?_) (fun h9 => absurd h9 (by omega))
  refine zz_gsn 8 rfl ?_
  have em : zw (σ.1 500 a - 1) = ((q.1 - 1 : Nat) : Int) := by rw [hq1, zw_id (by omega) (by omega)]; omega
  rw [em]
  have eq : zq_rem pl q = zq_rem pl (q.1 - 1 + 1, q.2) := by rw [show q.1 - 1 + 1 = q.1 by omega]
  rw [eq]
  exact lp_nrem (f := q.2) (σ0 := σ) (n := q.1 - 1) (by omega) (by omega) hb (fun σ' x1 x2 => ⟨rfl, x1, x2⟩) (q.1 - 1 - pl) pl _ (by omega) (Nat.le_refl _) (sf_h _ _ _ _) (fun j _ hj => hq.2 j (by omega)) (fun j hj => by rw [if_pos hj]; exact hq.2 j (by omega)) (zz_F.sf (Or.inl rfl))
end
section
/-! rows of numbers: by a deed -/
theorem t_Numbers_change {X : zz_X} {σ : zz_M} {p a : Nat} {kind x : Int} {q : zq_T} (hq : QR σ a q) (hkd : 0 ≤ kind ∧ kind ≤ 3) (hp : kind = 0 ∨ kind = 2 → q.1 < p) (hp1 : kind = 1 ∨ kind = 3 → 0 < q.1) (hp2 : q.1 ≤ p) (hb : p < 100000) : zz_T X 3 p_Numbers_change [zP 5 p 0 a, zI kind, zI x] σ (fun r σ' => r = some (zI (zq_num kind x q)) ∧ QR σ' a (zq_chg kind x q) ∧ zz_F (zz_A2 a) σ σ') := by
  refine zz_mk k_Numbers_change o_Numbers_change rfl rfl (Nat.le_of_ble_eq_true rfl) ?_
  show zz_G X 3 p_Numbers_change 0 [zP 5 p 0 a, zI kind, zI x] [] σ _
  have hq1 := hq.1
  refine zz_gsn 1 rfl ?_
  have hk : kind = 0 ∨ kind = 1 ∨ kind = 2 ∨ kind = 3 := by omega
  rcases hk with hk | hk | hk | hk
  · refine zz_swI 0 2 rfl (by omega) rfl ?_
    refine zz_gsn 4 rfl ?_
    rw [hq1]
    refine zz_cv (n := 3) rfl rfl (t_Numbers_insert (pl := q.1) hq (hp (Or.inl hk)) (Nat.le_refl _) hb) (Nat.le_of_ble_eq_true rfl) (Nat.le_of_ble_eq_true rfl) (Nat.le_of_ble_eq_true rfl) (fun r6 σ6 q6 => ?_)
    obtain ⟨rfl, p6, g6⟩ := q6
    refine zz_gsn 1 rfl ?_
    refine zz_ri rfl (Or.inl rfl) ?_
    subst hk
    exact ⟨rfl, p6, g6⟩
  · refine zz_swI 1 15 rfl (by omega) rfl ?_
    refine zz_gsn 2 rfl ?_
    refine zz_cv (n := 2) rfl rfl (t_Numbers_remove (pl := 0) hq hp2 (hp1 (Or.inl hk)) hb) (Nat.le_of_ble_eq_true rfl) (Nat.le_of_ble_eq_true rfl) (Nat.le_of_ble_eq_true rfl) (fun r17 σ17 q17 => ?_)
    obtain ⟨rfl, p17, g17⟩ := q17
    refine zz_ri rfl (Or.inl rfl) ?_
    subst hk
    exact ⟨rfl, p17, g17⟩
  · refine zz_swI 2 9 rfl (by omega) rfl ?_
    refine zz_gsn 3 rfl ?_
    refine zz_cv (n := 3) rfl rfl (t_Numbers_insert (pl := 0) hq (hp (Or.inr hk)) (Nat.zero_le _) hb) (Nat.le_of_ble_eq_true rfl) (Nat.le_of_ble_eq_true rfl) (Nat.le_of_ble_eq_true rfl) (fun r12 σ12 q12 => ?_)
    obtain ⟨rfl, p12, g12⟩ := q12
    refine zz_gsn 1 rfl ?_
    refine zz_ri rfl (Or.inl rfl) ?_
    subst hk
    exact ⟨rfl, p12, g12⟩
  · refine zz_swO 19 rfl (by show kind < 0 ∨ 0 + 4 ≤ kind + 1; omega) rfl ?_
    refine zz_gsn 5 rfl ?_
    have em : zw (σ.1 500 a - 1) = ((q.1 - 1 : Nat) : Int) := by rw [hq1, zw_id (by omega) (by omega)]; have := hp1 (Or.inr hk); omega
    rw [em]
    refine zz_cv (n := 2) rfl rfl (t_Numbers_remove (pl := q.1 - 1) hq hp2 (by have := hp1 (Or.inr hk); omega) hb) (Nat.le_of_ble_eq_true rfl) (Nat.le_of_ble_eq_true rfl) (Nat.le_of_ble_eq_true rfl) (fun r24 σ24 q24 => ?_)
    obtain ⟨rfl, p24, g24⟩ := q24
    refine zz_ri rfl (Or.inl rfl) ?_
    subst hk
    exact ⟨rfl, p24, g24⟩
end
section
/-! deeds: how deep -/
/-- deeds: kind, base, number -/
abbrev zz_D : Type := Nat → Int × Nat × Int
def zd_B (D : zz_D) (j : Nat) : Nat := (D j).2.1
/-- the class's deeds at a are k ones of D -/
def DR (σ : zz_M) (a k : Nat) (D : zz_D) : Prop := σ.1 204 a = (k : Nat) ∧ k ≤ 60 ∧ ∀ j, j < k → σ.2 (a + 1) j = (D j).1 ∧ σ.2 (a + 2) j = ((D j).2.1 : Nat) ∧ σ.2 (a + 3) j = (D j).2.2
abbrev zz_A4 (a : Nat) : Nat → Prop := fun c => a ≤ c ∧ c ≤ a + 3
theorem DR.f {A : Nat → Prop} {σ σ' : zz_M} {a k : Nat} {D : zz_D} (h : DR σ a k D) (hF : zz_F A σ σ') (h0 : ∀ c, a ≤ c → c ≤ a + 3 → ¬ A c) : DR σ' a k D := ⟨((hF a (h0 a (by omega) (by omega))).1 204).trans h.1, h.2.1, fun j hj => ⟨((hF (a + 1) (h0 _ (by omega) (by omega))).2 j).trans (h.2.2 j hj).1, ((hF (a + 2) (h0 _ (by omega) (by omega))).2 j).trans (h.2.2 j hj).2.1, ((hF (a + 3) (h0 _ (by omega) (by omega))).2 j).trans (h.2.2 j hj).2.2⟩⟩
/-- a version is made of a lesser one -/
def zd_ok (k : Nat) (D : zz_D) : Prop := ∀ j, j < k → zd_B D j ≤ j
def zd_b (D : zz_D) (u : Nat) : Int := if u = 0 then -1 else (zd_B D (u - 1) : Nat)
theorem zd_b0 (D : zz_D) : zd_b D 0 = -1 := rfl
theorem zd_bs (D : zz_D) (u : Nat) : zd_b D (u + 1) = (zd_B D u : Nat) := rfl
def zd_dep (D : zz_D) : Nat → Nat → Nat
  | 0, _ => 0
  | _ + 1, 0 => 0
  | f + 1, u + 1 => zd_dep D f (zd_B D u) + 1
theorem zd_dep0 (D : zz_D) (f : Nat) : zd_dep D f 0 = 0 := by
  cases f <;> rfl
theorem zd_dep_le {k : Nat} {D : zz_D} (h : zd_ok k D) : ∀ (f u : Nat), u ≤ k → zd_dep D f u ≤ u
  | 0, _, _ => Nat.zero_le _
  | _ + 1, 0, _ => Nat.zero_le _
  | f + 1, u + 1, hu => by
    have h1 := h u hu
    have h2 := zd_dep_le h f (zd_B D u) (by omega)
    show zd_dep D f (zd_B D u) + 1 ≤ u + 1
    omega
theorem zd_dep_f {k : Nat} {D : zz_D} (h : zd_ok k D) : ∀ (f g u : Nat), u ≤ k → u ≤ f → u ≤ g → zd_dep D f u = zd_dep D g u
  | 0, g, u, _, hf, _ => by
    have e : u = 0 := by omega
    subst e
    rw [zd_dep0, zd_dep0]
  | f + 1, g, 0, _, _, _ => by rw [zd_dep0, zd_dep0]
  | f + 1, 0, u + 1, _, _, hg => by omega
  | f + 1, g + 1, u + 1, hu, hf, hg => by
    have h1 := h u hu
    show zd_dep D f (zd_B D u) + 1 = zd_dep D g (zd_B D u) + 1
    rw [zd_dep_f h f g (zd_B D u) (by omega) (by omega) (by omega)]
theorem dr_b {σ : zz_M} {a k u : Nat} {D : zz_D} {n : Int} (hD : DR σ a k D) (hu : u ≤ k) (e : (1 ≤ (u : Int) ∧ (u : Int) ≤ σ.1 204 a ∧ (u : Int) ≤ 60 ∧ n = σ.2 (a + 2) (zw ((u : Int) - 1)).toNat) ∨ (¬ (1 ≤ (u : Int) ∧ (u : Int) ≤ σ.1 204 a ∧ (u : Int) ≤ 60) ∧ n = -1)) : n = zd_b D u := by
  obtain ⟨d1, d2, d3⟩ := hD
  cases u with
  | zero =>
    rcases e with ⟨e, -⟩ | ⟨-, e⟩
    · omega
    · exact e
  | succ u =>
    rcases e with ⟨-, -, -, e⟩ | ⟨e, -⟩
    · have ez : (zw (((u + 1 : Nat) : Int) - 1)).toNat = u := by rw [zw_id (by omega) (by omega)]; omega
      rw [e, ez, (d3 u hu).2.1]
      rfl
    · exact absurd ⟨by omega, by omega, by omega⟩ e
theorem lp_depth {X : zz_X} {a k n : Nat} {D : zz_D} {σ : zz_M} {v : Int} {Post : Option zz_V → zz_M → Prop} (hD : DR σ a k D) (hok : zd_ok k D) (hn : n ≤ 60) (kk : Post (some (zI (n : Nat))) σ) :
    ∀ (f u acc : Nat), u ≤ f → u ≤ k → acc + zd_dep D f u = n → zz_G X 3 p_Deeds_depth 6 [zP 2 0 0 a, zI v, zI (acc : Nat), zI (zd_b D u)] [] σ Post := by
  have hk60 := hD.2.1
  intro f
  induction f with
  | zero =>
    intro u acc hu hk he
    have e : u = 0 := by omega
    subst e
    have e2 : acc = n := he
    subst e2
    rw [zd_b0]
    refine zz_gsn 2 rfl ?_
    refine zz_br rfl (fun h8 => ?_) (fun h8 => absurd rfl h8)
    refine zz_gsn 1 rfl ?_
    refine zz_ri rfl (Or.inl rfl) ?_
    exact kk
  | succ f ih =>
    intro u acc hu hk he
    cases u with
    | zero =>
      have e2 : acc = n := he
      subst e2
      rw [zd_b0]
      refine zz_gsn 2 rfl ?_
      refine zz_br rfl (fun h8 => ?_) (fun h8 => absurd rfl h8)
      refine zz_gsn 1 rfl ?_
      refine zz_ri rfl (Or.inl rfl) ?_
      exact kk
    | succ u =>
      have hb := hok u hk
      have he2 : acc + (zd_dep D f (zd_B D u) + 1) = n := he
      rw [zd_bs]
      have ea : zw ((acc : Int) + 1) = ((acc + 1 : Nat) : Int) := by rw [zw_id (by omega) (by omega)]; omega
      refine zz_gsn 2 rfl ?_
      refine zz_br rfl (fun h8 => absurd h8 (by omega)) (fun h8 => ?_)
      refine zz_gsn 2 rfl ?_
      refine zz_br rfl (fun h11 => absurd h11 (by omega)) (fun h11 => ?_)
      refine zz_gsn 3 rfl ?_
      refine zz_cv (n := 2) rfl rfl (t_Deeds_baseOf (by omega)) (Nat.le_of_ble_eq_true rfl) (Nat.le_of_ble_eq_true rfl) (Nat.le_of_ble_eq_true rfl) (fun r15 σ15 q15 => ?_)
      obtain ⟨rfl, n15, rfl, e15⟩ := q15
      have e16 := dr_b hD (by omega) e15
      subst e16
      refine zz_gsn 1 rfl ?_
      refine zz_jp rfl ?_
      rw [ea]
      exact ih (zd_B D u) (acc + 1) (by omega) (by omega) (by omega)
theorem t_Deeds_depth {X : zz_X} {σ : zz_M} {a k v : Nat} {D : zz_D} (hD : DR σ a k D) (hok : zd_ok k D) (hv : v ≤ k) : zz_T X 3 p_Deeds_depth [zP 2 0 0 a, zI (v : Nat)] σ (fun r σ' => σ = σ' ∧ r = some (zI (zd_dep D v v : Nat))) := by
  refine zz_mk k_Deeds_depth o_Deeds_depth rfl rfl (Nat.le_of_ble_eq_true rfl) ?_
  show zz_G X 3 p_Deeds_depth 0 [zP 2 0 0 a, zI (v : Nat), zU, zU] [] σ _
  have hk := hD.2.1
  have hle := zd_dep_le hok v v hv
  refine zz_gsn 4 rfl ?_
  refine zz_cv (n := 2) rfl rfl (t_Deeds_baseOf (by omega)) (Nat.le_of_ble_eq_true rfl) (Nat.le_of_ble_eq_true rfl) (Nat.le_of_ble_eq_true rfl) (fun r4 σ4 q4 => ?_)
  obtain ⟨rfl, n4, rfl, e4⟩ := q4
  have e5 := dr_b hD hv e4
  subst e5
  refine zz_gsn 1 rfl ?_
  exact lp_depth hD hok (by omega) ⟨rfl, rfl⟩ v v 0 (Nat.le_refl _) hv (Nat.zero_add _)
end
section
/-! deeds: where two meet -/
def zd_meet (D : zz_D) : Nat → Nat → Nat → Nat
  | 0, v, _ => v
  | f + 1, v, w => if v = w then v else if w < v then zd_meet D f (zd_B D (v - 1)) w else zd_meet D f v (zd_B D (w - 1))
theorem zd_meet_le {k : Nat} {D : zz_D} (h : zd_ok k D) : ∀ (f v w : Nat), v ≤ k → w ≤ k → zd_meet D f v w ≤ v
  | 0, _, _, _, _ => Nat.le_refl _
  | f + 1, v, w, hv, hw => by
    show (if v = w then v else if w < v then zd_meet D f (zd_B D (v - 1)) w else zd_meet D f v (zd_B D (w - 1))) ≤ v
    by_cases e : v = w
    · rw [if_pos e]
      exact Nat.le_refl _
    · rw [if_neg e]
      by_cases e2 : w < v
      · rw [if_pos e2]
        have h1 := h (v - 1) (by omega)
        have h2 := zd_meet_le h f (zd_B D (v - 1)) w (by omega) hw
        omega
      · rw [if_neg e2]
        have h1 := h (w - 1) (by omega)
        exact zd_meet_le h f v (zd_B D (w - 1)) hv (by omega)
theorem zd_bp (D : zz_D) {u : Nat} (h : 0 < u) : zd_b D u = (zd_B D (u - 1) : Nat) := if_neg (by omega)
theorem lp_meet {X : zz_X} {a k n : Nat} {D : zz_D} {σ : zz_M} {x y : Int} {Post : Option zz_V → zz_M → Prop} (hD : DR σ a k D) (hok : zd_ok k D) (kk : Post (some (zI (n : Nat))) σ) :
    ∀ (f v w i : Nat), i + f = 122 → v + w < f → v ≤ k → w ≤ k → zd_meet D f v w = n → zz_G X 3 p_Deeds_meeting 6 [zP 2 0 0 a, zI x, zI y, zI (v : Nat), zI (w : Nat), zI (i : Nat)] [] σ Post := by
  have hk := hD.2.1
  intro f
  induction f with
  | zero =>
    intro v w i hi hf hv hw he
    exact absurd hf (Nat.not_lt_zero _)
  | succ f ih =>
    intro v w i hi hf hv hw he
    have hc : (if v = w then v else if w < v then zd_meet D f (zd_B D (v - 1)) w else zd_meet D f v (zd_B D (w - 1))) = n := he
    have ei : zw ((i : Int) + 1) = ((i + 1 : Nat) : Int) := by rw [zw_id (by omega) (by omega)]; omega
    by_cases e : v = w
    · rw [if_pos e] at hc
      subst hc
      refine zz_gsn 2 rfl ?_
      refine zz_br rfl (fun h8 => absurd h8 (by omega)) (fun h8 => ?_)
      refine zz_gsn 2 rfl ?_
      refine zz_br rfl (fun h11 => ?_) (fun h11 => absurd (by omega) h11)
      refine zz_gsn 1 rfl ?_
      refine zz_ri rfl (Or.inl rfl) ?_
      exact kk
    · rw [if_neg e] at hc
      by_cases e2 : w < v
      · rw [if_pos e2] at hc
        have h1 := hok (v - 1) (by omega)
        refine zz_gsn 2 rfl ?_
        refine zz_br rfl (fun h8 => absurd h8 (by omega)) (fun h8 => ?_)
        refine zz_gsn 2 rfl ?_
        refine zz_br rfl (fun h11 => absurd h11 (by omega)) (fun h11 => ?_)
        refine zz_gsn 2 rfl ?_
        refine zz_br rfl (fun h14 => absurd h14 (by omega)) (fun h14 => ?_)
        refine zz_gsn 2 rfl ?_
        refine zz_cv (n := 2) rfl rfl (t_Deeds_baseOf (by omega)) (Nat.le_of_ble_eq_true rfl) (Nat.le_of_ble_eq_true rfl) (Nat.le_of_ble_eq_true rfl) (fun r17 σ17 q17 => ?_)
        obtain ⟨rfl, n17, rfl, e17⟩ := q17
        have e18 := dr_b hD hv e17
        rw [zd_bp D (by omega)] at e18
        subst e18
        refine zz_gsn 1 rfl ?_
        refine zz_jp rfl ?_
        refine zz_gsn 1 rfl ?_
        refine zz_jp rfl ?_
        rw [ei]
        exact ih (zd_B D (v - 1)) w (i + 1) (by omega) (by omega) (by omega) hw hc
      · rw [if_neg e2] at hc
        have h1 := hok (w - 1) (by omega)
        refine zz_gsn 2 rfl ?_
        refine zz_br rfl (fun h8 => absurd h8 (by omega)) (fun h8 => ?_)
        refine zz_gsn 2 rfl ?_
        refine zz_br rfl (fun h11 => absurd h11 (by omega)) (fun h11 => ?_)
        refine zz_gsn 2 rfl ?_
        refine zz_br rfl (fun h14 => ?_) (fun h14 => absurd h14 (by omega))
        refine zz_gsn 2 rfl ?_
        refine zz_cv (n := 2) rfl rfl (t_Deeds_baseOf (by omega)) (Nat.le_of_ble_eq_true rfl) (Nat.le_of_ble_eq_true rfl) (Nat.le_of_ble_eq_true rfl) (fun r22 σ22 q22 => ?_)
        obtain ⟨rfl, n22, rfl, e22⟩ := q22
        have e23 := dr_b hD hw e22
        rw [zd_bp D (by omega)] at e23
        subst e23
        refine zz_gsn 2 rfl ?_
        refine zz_jp rfl ?_
        rw [ei]
        exact ih v (zd_B D (w - 1)) (i + 1) (by omega) (by omega) hv (by omega) hc
theorem t_Deeds_meeting {X : zz_X} {σ : zz_M} {a k v w : Nat} {D : zz_D} (hD : DR σ a k D) (hok : zd_ok k D) (hv : v ≤ k) (hw : w ≤ k) : zz_T X 3 p_Deeds_meeting [zP 2 0 0 a, zI (v : Nat), zI (w : Nat)] σ (fun r σ' => σ = σ' ∧ r = some (zI (zd_meet D 122 v w : Nat))) := by
  refine zz_mk k_Deeds_meeting o_Deeds_meeting rfl rfl (Nat.le_of_ble_eq_true rfl) ?_
  show zz_G X 3 p_Deeds_meeting 0 [zP 2 0 0 a, zI (v : Nat), zI (w : Nat), zU, zU, zU] [] σ _
  have hk := hD.2.1
  refine zz_gsn 6 rfl ?_
  exact lp_meet hD hok ⟨rfl, rfl⟩ 122 v w 0 rfl (by omega) hv hw rfl
end
section
/-! deeds: how many are made of one -/
def zz_sum (f : Nat → Int) : Nat → Int
  | 0 => 0
  | n + 1 => zz_sum f n + f n
theorem zz_sum_b {f : Nat → Int} {B : Int} (hB : 0 ≤ B) (h : ∀ j, 0 ≤ f j ∧ f j ≤ B) : ∀ n : Nat, 0 ≤ zz_sum f n ∧ zz_sum f n ≤ B * (n : Int)
  | 0 => ⟨Int.le_refl _, by show (0 : Int) ≤ B * 0; omega⟩
  | n + 1 => by
    have h1 := zz_sum_b hB h n
    have h2 := h n
    have e : B * ((n + 1 : Nat) : Int) = B * (n : Int) + B := by rw [Int.natCast_succ, Int.mul_add, Int.mul_one]
    show 0 ≤ zz_sum f n + f n ∧ zz_sum f n + f n ≤ _
    rw [e]
    omega
def zd_is (D : zz_D) (v : Int) (j : Nat) : Int := if ((zd_B D j : Nat) : Int) = v then 1 else 0
theorem zd_is_b (D : zz_D) (v : Int) (j : Nat) : 0 ≤ zd_is D v j ∧ zd_is D v j ≤ 1 := by
  unfold zd_is
  split <;> omega
theorem lp_madeOf {X : zz_X} {a k : Nat} {D : zz_D} {σ : zz_M} {v : Int} {Post : Option zz_V → zz_M → Prop} (hD : DR σ a k D) (kk : Post (some (zI (zz_sum (zd_is D v) k))) σ) :
    ∀ (r i : Nat), i + r = k → zz_G X 2 p_Deeds_madeOf 4 [zP 2 0 0 a, zI v, zI (zz_sum (zd_is D v) i), zI (i : Nat)] [] σ Post := by
  obtain ⟨d1, d2, d3⟩ := hD
  intro r
  induction r with
  | zero =>
    intro i hi
    have e : i = k := by omega
    subst e
    refine zz_gsn 2 rfl ?_
    refine zz_cv (n := 2) rfl rfl (t_Deeds_hasDeed) (Nat.le_of_ble_eq_true rfl) (Nat.le_of_ble_eq_true rfl) (Nat.le_of_ble_eq_true rfl) (fun r6 σ6 q6 => ?_)
    obtain ⟨rfl, n6, rfl, e6⟩ := q6
    refine zz_br rfl (fun h7 => ?_) (fun h7 => absurd h7 (by omega))
    refine zz_gsn 1 rfl ?_
    refine zz_ri rfl (Or.inl rfl) ?_
    exact kk
  | succ r ih =>
    intro i hi
    have ei : zw ((i : Int) + 1) = ((i + 1 : Nat) : Int) := by rw [zw_id (by omega) (by omega)]; omega
    have hb := zz_sum_b (f := zd_is D v) (B := 1) (by decide) (zd_is_b D v) i
    have hz : σ.2 (a + 2) i = ((zd_B D i : Nat) : Int) := (d3 i (by omega)).2.1
    refine zz_gsn 2 rfl ?_
    refine zz_cv (n := 2) rfl rfl (t_Deeds_hasDeed) (Nat.le_of_ble_eq_true rfl) (Nat.le_of_ble_eq_true rfl) (Nat.le_of_ble_eq_true rfl) (fun r6 σ6 q6 => ?_)
    obtain ⟨rfl, n6, rfl, e6⟩ := q6
    refine zz_br rfl (fun h7 => absurd h7 (by omega)) (fun h7 => ?_)
    refine zz_gsn 4 rfl ?_
    refine zz_ald rfl (by omega) ?_
    refine zz_gsn 1 rfl ?_
    refine zz_br rfl (fun h14 => ?_) (fun h14 => ?_)
    · refine zz_gsn 4 rfl ?_
      refine zz_jp rfl ?_
      rw [Int.toNat_natCast] at h14
      have es : zw (zz_sum (zd_is D v) i + 0) = zz_sum (zd_is D v) (i + 1) := by
        show _ = zz_sum (zd_is D v) i + zd_is D v i
        rw [zw_id (by omega) (by omega), show zd_is D v i = 0 from if_neg (by rw [← hz]; exact h14)]
      rw [ei, es]
      exact ih (i + 1) (by omega)
    · refine zz_gsn 1 rfl ?_
      refine zz_jp rfl ?_
      refine zz_gsn 3 rfl ?_
      refine zz_jp rfl ?_
      rw [Int.toNat_natCast] at h14
      have es : zw (zz_sum (zd_is D v) i + 1) = zz_sum (zd_is D v) (i + 1) := by
        show _ = zz_sum (zd_is D v) i + zd_is D v i
        rw [zw_id (by omega) (by omega), show zd_is D v i = 1 from if_pos (by rw [← hz]; exact h14)]
      rw [ei, es]
      exact ih (i + 1) (by omega)
theorem t_Deeds_madeOf {X : zz_X} {σ : zz_M} {a k : Nat} {v : Int} {D : zz_D} (hD : DR σ a k D) : zz_T X 2 p_Deeds_madeOf [zP 2 0 0 a, zI v] σ (fun r σ' => σ = σ' ∧ r = some (zI (zz_sum (zd_is D v) k))) := by
  refine zz_mk k_Deeds_madeOf o_Deeds_madeOf rfl rfl (Nat.le_of_ble_eq_true rfl) ?_
  show zz_G X 2 p_Deeds_madeOf 0 [zP 2 0 0 a, zI v, zU, zU] [] σ _
  refine zz_gsn 4 rfl ?_
  exact lp_madeOf hD ⟨rfl, rfl⟩ k 0 (Nat.zero_add _)
end
section
/-! a cell by its place in a row -/
/-- the i-th of a list of cells; NONE: there is none -/
def zl_at (l : List Nat) (i : Nat) : Int := match l[i]? with
  | some x => (x : Int)
  | none => -1
theorem zl_at_s {l : List Nat} {i x : Nat} {t : List Nat} (h : l.drop i = x :: t) : l[i]? = some x ∧ l.drop (i + 1) = t := by
  constructor
  · have z : (l.drop i)[0]? = some x := by rw [h]; rfl
    rw [List.getElem?_drop] at z
    exact z
  · rw [← List.drop_drop, h]
    rfl
theorem lp_cellIn {X : zz_X} {p c r i : Nat} {l : List Nat} {σ : zz_M} {Post : Option zz_V → zz_M → Prop} (hi : i < l.length) (hb : l.length < 100000) (hlt : ∀ x ∈ l, x < p) (kk : Post (some (zI (zl_at l i))) σ) :
    ∀ (f k : Nat) (cell : Int), k + f = i → zz_ch (σ.2 (c + 2)) cell (l.drop k) → zz_G X 2 p_Cells_cellIn 13 [zP 1 p 0 c, zP 7 0 0 r, zI (i : Nat), zI cell, zI (k : Nat)] [] σ Post := by
  intro f
  induction f with
  | zero =>
    intro k cell hk hch
    have e : k = i := by omega
    subst e
    have ec : cell = zl_at l k := by
      cases h : l.drop k with
      | nil =>
        have z := List.drop_eq_nil_iff.mp h
        omega
      | cons x t =>
        rw [h] at hch
        unfold zl_at
        rw [(zl_at_s h).1]
        exact hch.1
    rw [ec]
    refine zz_gsn 2 rfl ?_
    refine zz_br rfl (fun h15 => ?_) (fun h15 => absurd h15 (by omega))
    refine zz_gsn 1 rfl ?_
    refine zz_ri rfl (Or.inl rfl) ?_
    exact kk
  | succ f ih =>
    intro k cell hk hch
    have ei : zw ((k : Int) + 1) = ((k + 1 : Nat) : Int) := by rw [zw_id (by omega) (by omega)]; omega
    cases h : l.drop k with
    | nil =>
      have z := List.drop_eq_nil_iff.mp h
      omega
    | cons x t =>
      rw [h] at hch
      obtain ⟨c1, c2⟩ := hch
      obtain ⟨g1, g2⟩ := zl_at_s h
      have hx : x < p := hlt x (List.mem_of_getElem? g1)
      refine zz_gsn 2 rfl ?_
      refine zz_br rfl (fun h15 => absurd h15 (by omega)) (fun h15 => ?_)
      refine zz_gsn 2 rfl ?_
      refine zz_cv (n := 2) rfl rfl (t_Cells_behind) (Nat.le_of_ble_eq_true rfl) (Nat.le_of_ble_eq_true rfl) (Nat.le_of_ble_eq_true rfl) (fun r18 σ18 q18 => ?_)
      obtain ⟨rfl, n18, rfl, e18⟩ := q18
      have en : n18 = σ.2 (c + 2) x := by
        rcases e18 with ⟨-, -, e18⟩ | ⟨e18, -⟩
        · rw [e18, c1, Int.toNat_natCast]
        · exact absurd ⟨by omega, by omega⟩ e18
      refine zz_gsn 2 rfl ?_
      refine zz_jp rfl ?_
      rw [ei]
      exact ih (k + 1) n18 (by omega) (by rw [en, g2]; exact c2)
theorem t_Cells_cellIn {X : zz_X} {σ : zz_M} {p c r : Nat} {i : Int} {l : List Nat} (hch : zz_ch (σ.2 (c + 2)) (σ.1 700 r) l) (hlen : σ.1 701 r = (l.length : Nat)) (hb : l.length < 100000) (hlt : ∀ x ∈ l, x < p) : zz_T X 2 p_Cells_cellIn [zP 1 p 0 c, zP 7 0 0 r, zI i] σ (fun r σ' => σ = σ' ∧ r = some (zI (if 0 ≤ i then zl_at l i.toNat else -1))) := by
  refine zz_mk k_Cells_cellIn o_Cells_cellIn rfl rfl (Nat.le_of_ble_eq_true rfl) ?_
  show zz_G X 2 p_Cells_cellIn 0 [zP 1 p 0 c, zP 7 0 0 r, zI i, zU, zU] [] σ _
  refine zz_gsn 1 rfl ?_
  refine zz_br rfl (fun h1 => ?_) (fun h1 => ?_)
  · refine zz_gsn 1 rfl ?_
    refine zz_ri rfl (Or.inl rfl) ?_
    rw [if_neg (by omega)]
    exact ⟨rfl, rfl⟩
  · refine zz_gsn 3 rfl ?_
    refine zz_br rfl (fun h5 => ?_) (fun h5 => ?_)
    · refine zz_gsn 5 rfl ?_
      rw [if_pos (by omega)]
      refine zz_lse (ls' := [zP 1 p 0 c, zP 7 0 0 r, zI (i.toNat : Nat), zI (σ.1 700 r), zI (0 : Nat)]) (by rw [Int.toNat_of_nonneg (by omega)]; rfl) ?_
      exact lp_cellIn (by omega) hb hlt ⟨rfl, rfl⟩ i.toNat 0 _ (Nat.zero_add _) hch
    · refine zz_gsn 1 rfl ?_
      refine zz_ri rfl (Or.inl rfl) ?_
      have e : zl_at l i.toNat = -1 := by
        unfold zl_at
        rw [List.getElem?_eq_none (by omega)]
      rw [if_pos (by omega), e]
      exact ⟨rfl, rfl⟩
end
section
/-! marks -/
/-- marks: what is marked, and how many of n ones that a test lets pass -/
def zm_set (A : Nat → Bool) (x : Nat) : Nat → Bool := fun y => A y || y == x
theorem zm_set_s (A : Nat → Bool) (x : Nat) : zm_set A x x = true := by
  show (A x || x == x) = true
  rw [beq_self_eq_true, Bool.or_true]
theorem zm_set_n (A : Nat → Bool) {x y : Nat} (h : y ≠ x) : zm_set A x y = A y := by
  show (A y || y == x) = A y
  rw [beq_false_of_ne h, Bool.or_false]
def zm_add : (Nat → Bool) → List Nat → (Nat → Bool)
  | A, [] => A
  | A, x :: l => zm_add (zm_set A x) l
theorem zm_add_t : ∀ {l : List Nat} {A : Nat → Bool} {y : Nat}, zm_add A l y = true ↔ A y = true ∨ y ∈ l
  | [], A, y => by simp [zm_add]
  | x :: l, A, y => by
    show zm_add (zm_set A x) l y = true ↔ _
    rw [zm_add_t, List.mem_cons]
    show (A y || y == x) = true ∨ _ ↔ _
    rw [Bool.or_eq_true, beq_iff_eq]
    exact or_assoc
def zm_f (P : Nat → Bool) (A : Nat → Bool) (c : Nat) : Int := if (A c && P c) = true then 1 else 0
theorem zz_sum_c {f g : Nat → Int} : ∀ {n : Nat}, (∀ j, j < n → f j = g j) → zz_sum f n = zz_sum g n
  | 0, _ => rfl
  | n + 1, h => by
    show zz_sum f n + f n = zz_sum g n + g n
    rw [zz_sum_c (fun j hj => h j (by omega)), h n (by omega)]
theorem zz_sum_1 {f g : Nat → Int} {x : Nat} : ∀ {n : Nat}, x < n → (∀ j, j ≠ x → g j = f j) → zz_sum g n = zz_sum f n + (g x - f x)
  | 0, hx, _ => absurd hx (Nat.not_lt_zero _)
  | n + 1, hx, h => by
    show zz_sum g n + g n = zz_sum f n + f n + (g x - f x)
    by_cases e : x = n
    · subst e
      rw [zz_sum_c (f := g) (g := f) (fun j hj => h j (by omega))]
      omega
    · rw [zz_sum_1 (x := x) (by omega) h, h n (fun z => e z.symm)]
      omega
theorem zm_f_b (P A : Nat → Bool) (j : Nat) : 0 ≤ zm_f P A j ∧ zm_f P A j ≤ 1 := by
  unfold zm_f
  split <;> omega
theorem zm_one {P A : Nat → Bool} {x n : Nat} (hx : x < n) : zz_sum (zm_f P (zm_set A x)) n = zz_sum (zm_f P A) n + (if A x = false ∧ P x = true then 1 else 0) := by
  have h1 := zz_sum_1 (f := zm_f P A) (g := zm_f P (zm_set A x)) (x := x) hx (fun j hj => by unfold zm_f; rw [zm_set_n A hj])
  have h2 : zm_f P (zm_set A x) x - zm_f P A x = (if A x = false ∧ P x = true then 1 else 0) := by
    unfold zm_f
    rw [zm_set_s]
    cases A x <;> cases P x <;> rfl
  rw [h1, h2]
/-- the class's marks -/
def MKR (σ : zz_M) (c p : Nat) (A : Nat → Bool) : Prop := ∀ i, i < p → (σ.2 (c + 4) i = σ.1 105 c ↔ A i = true) ∧ σ.2 (c + 4) i ≤ σ.1 105 c
theorem MKR.add {σ : zz_M} {c p x : Nat} {A : Nat → Bool} (h : MKR σ c p A) : MKR (zz_sa σ (c + 4) x (σ.1 105 c)) c p (zm_set A x) := fun i hi => by
  obtain ⟨h1, h2⟩ := h i hi
  by_cases e : i = x
  · subst e
    rw [sa_h]
    exact ⟨⟨fun _ => zm_set_s A i, fun _ => rfl⟩, Int.le_refl _⟩
  · rw [sa_i _ _ e, zm_set_n A e]
    exact ⟨h1, h2⟩
def zm_P (mkr : Nat → Int) (mk : Int) (x : Nat) : Bool := decide (mk = -1) || decide (mkr x = mk)
theorem zm_bd {P A : Nat → Bool} {n : Nat} : 0 ≤ zz_sum (zm_f P A) n ∧ zz_sum (zm_f P A) n ≤ (n : Int) := by
  have h := zz_sum_b (f := zm_f P A) (B := 1) (by decide) (zm_f_b P A) n
  rw [Int.one_mul] at h
  exact h
theorem lp_markRow {X : zz_X} {p c r n ln : Nat} {mk N0 : Int} {mkr : Nat → Int} {σ0 : zz_M} {A' : Nat → Bool} {Post : Option zz_V → zz_M → Prop} (hrc : r ≠ c + 4) (hn : n ≤ p) (hb : ln < 100000) (hpb : p < 100000) (hN0 : 0 ≤ N0 ∧ N0 ≤ n)
    (hmkr : ∀ i, i < n → σ0.2 (c + 3) i = mkr i) (hlen : σ0.1 701 r = (ln : Nat)) (kk : ∀ σ', MKR σ' c p A' → zz_F (fun a => a = c + 4) σ0 σ' → Post (some (zI (zz_sum (zm_f (zm_P mkr mk) A') n - N0))) σ') :
    ∀ (l : List Nat) (i : Nat) (A : Nat → Bool) (cell : Int) (σ : zz_M), i + l.length = ln → (∀ x ∈ l, x < n) → zz_ch (σ0.2 (c + 2)) cell l → MKR σ c p A → zm_add A l = A' → zz_F (fun a => a = c + 4) σ0 σ →
      zz_G X 1 p_Cells_markRow 7 [zP 1 p 0 c, zP 7 0 0 r, zI mk, zI (zz_sum (zm_f (zm_P mkr mk) A) n - N0), zI cell, zI (i : Nat)] [] σ Post := by
  intro l
  induction l with
  | nil =>
    intro i A cell σ hi hlt hch hM hA hF
    have e : i = ln := hi
    have e2 : A = A' := hA
    subst e2
    have el : σ.1 701 r = (ln : Nat) := by rw [(hF r hrc).1]; exact hlen
    refine zz_gsn 3 rfl ?_
    refine zz_br rfl (fun h10 => ?_) (fun h10 => absurd h10 (by omega))
    refine zz_gsn 1 rfl ?_
    refine zz_ri rfl (Or.inl rfl) ?_
    exact kk σ hM hF
  | cons x t ih =>
    intro i A cell σ hi hlt hch hM hA hF
    have hi2 : i + (t.length + 1) = ln := hi
    have el : σ.1 701 r = (ln : Nat) := by rw [(hF r hrc).1]; exact hlen
    have hx : x < n := hlt x List.mem_cons_self
    obtain ⟨c1, c2⟩ := hch
    subst c1
    have no10 : ¬ σ.1 701 r ≤ (i : Int) := by rw [el]; omega
    have no12 : ¬ (x : Int) < 0 := by omega
    have no17 : ¬ (p : Int) ≤ (x : Int) := by omega
    have hob : 0 ≤ (x : Int) ∧ (x : Int) < (p : Int) := ⟨by omega, by omega⟩
    have ei : zw ((i : Int) + 1) = ((i + 1 : Nat) : Int) := by rw [zw_id (by omega) (by omega)]; omega
    have bd := zm_bd (P := zm_P mkr mk) (A := A) (n := n)
    have hm1 := (hM x (by omega)).1
    have e3 : σ.2 (c + 3) x = mkr x := by rw [(hF (c + 3) (by omega)).2]; exact hmkr x hx
    have e2 : σ.2 (c + 2) = σ0.2 (c + 2) := funext ((hF (c + 2) (by omega)).2)
    have one := zm_one (P := zm_P mkr mk) (A := A) hx
    have nx : ∀ cell2 : Int, cell2 = σ0.2 (c + 2) x → zz_ch (σ0.2 (c + 2)) cell2 t := fun cell2 h => by rw [h]; exact c2
    have fin : ∀ (fr cell2 : Int) (σ' : zz_M), σ' = zz_sa σ (c + 4) x (σ.1 105 c) → cell2 = σ0.2 (c + 2) x → fr = zz_sum (zm_f (zm_P mkr mk) (zm_set A x)) n - N0 → zz_G X 1 p_Cells_markRow 7 [zP 1 p 0 c, zP 7 0 0 r, zI mk, zI fr, zI cell2, zI (zw ((i : Int) + 1))] [] σ' Post := fun fr cell2 σ' h1 h2 h3 => by
      rw [ei, h3, h1]
      exact ih (i + 1) _ cell2 _ (by omega) (fun y hy => hlt y (List.mem_cons_of_mem _ hy)) (nx cell2 h2) hM.add hA (hF.tr (zz_F.sa rfl))
    refine zz_gsn 3 rfl ?_
    refine zz_br rfl (fun h10 => absurd h10 no10) (fun h10 => ?_)
    refine zz_gsn 1 rfl ?_
    refine zz_br rfl (fun h12 => absurd h12 no12) (fun h12 => ?_)
    refine zz_gsn 4 rfl ?_
    refine zz_br rfl (fun h17 => absurd h17 no17) (fun h17 => ?_)
    refine zz_gsn 3 rfl ?_
    refine zz_ald rfl (hob) ?_
    refine zz_gsn 2 rfl ?_
    refine zz_br rfl (fun h24 => ?_) (fun h24 => ?_)
    · refine zz_gsn 5 rfl ?_
      refine zz_ast rfl (hob) ?_
      refine zz_gsn 3 rfl ?_
      refine zz_ald rfl (hob) ?_
      refine zz_gsn 2 rfl ?_
      refine zz_jp rfl ?_
      have hA1 : A x = true := hm1.mp (by rw [Int.toNat_natCast] at h24; exact h24)
      refine fin _ _ _ (by rw [Int.toNat_natCast]) (by rw [sa_a _ _ (by omega), Int.toNat_natCast, e2]) ?_
      rw [one, if_neg (fun z => by rw [hA1] at z; exact absurd z.1 (by decide)), Int.add_zero]
    · refine zz_gsn 2 rfl ?_
      refine zz_br rfl (fun h27 => ?_) (fun h27 => ?_)
      · refine zz_gsn 6 rfl ?_
        refine zz_ast rfl (hob) ?_
        refine zz_gsn 3 rfl ?_
        refine zz_ald rfl (hob) ?_
        refine zz_gsn 2 rfl ?_
        refine zz_jp rfl ?_
        have hA1 : A x = false := by
          rw [Int.toNat_natCast] at h24
          cases h : A x
          · rfl
          · exact absurd (hm1.mpr h) h24
        have hP : zm_P mkr mk x = true := by
          unfold zm_P
          rw [h27]; rfl
        refine fin _ _ _ (by rw [Int.toNat_natCast]) (by rw [sa_a _ _ (by omega), Int.toNat_natCast, e2]) ?_
        rw [one, if_pos ⟨hA1, hP⟩, zw_id (by omega) (by omega)]
        omega
      · refine zz_gsn 3 rfl ?_
        refine zz_ald rfl (hob) ?_
        refine zz_gsn 1 rfl ?_
        refine zz_br rfl (fun h33 => ?_) (fun h33 => ?_)
        · refine zz_gsn 5 rfl ?_
          refine zz_ast rfl (hob) ?_
          refine zz_gsn 3 rfl ?_
          refine zz_ald rfl (hob) ?_
          refine zz_gsn 2 rfl ?_
          refine zz_jp rfl ?_
          have hA1 : A x = false := by
            rw [Int.toNat_natCast] at h24
            cases h : A x
            · rfl
            · exact absurd (hm1.mpr h) h24
          have hP : zm_P mkr mk x = false := by
            unfold zm_P
            rw [Int.toNat_natCast, e3] at h33
            rw [decide_eq_false h33, decide_eq_false h27]; rfl
          refine fin _ _ _ (by rw [Int.toNat_natCast]) (by rw [sa_a _ _ (by omega), Int.toNat_natCast, e2]) ?_
          rw [one, if_neg (fun z => by rw [hP] at z; exact absurd z.2 (by decide)), Int.add_zero]
        · refine zz_gsn 6 rfl ?_
          refine zz_ast rfl (hob) ?_
          refine zz_gsn 3 rfl ?_
          refine zz_ald rfl (hob) ?_
          refine zz_gsn 2 rfl ?_
          refine zz_jp rfl ?_
          have hA1 : A x = false := by
            rw [Int.toNat_natCast] at h24
            cases h : A x
            · rfl
            · exact absurd (hm1.mpr h) h24
          have hP : zm_P mkr mk x = true := by
            unfold zm_P
            rw [Int.toNat_natCast, e3] at h33; rw [decide_eq_true h33, Bool.or_true]
          refine fin _ _ _ (by rw [Int.toNat_natCast]) (by rw [sa_a _ _ (by omega), Int.toNat_natCast, e2]) ?_
          rw [one, if_pos ⟨hA1, hP⟩, zw_id (by omega) (by omega)]
          omega
theorem t_Cells_markRow {X : zz_X} {σ : zz_M} {p c r n : Nat} {mk : Int} {mkr : Nat → Int} {A : Nat → Bool} {l : List Nat} (hrc : r ≠ c + 4) (hn : n ≤ p) (hb : l.length < 100000) (hpb : p < 100000) (hmkr : ∀ i, i < n → σ.2 (c + 3) i = mkr i) (hlen : σ.1 701 r = (l.length : Nat)) (hlt : ∀ x ∈ l, x < n) (hch : zz_ch (σ.2 (c + 2)) (σ.1 700 r) l) (hM : MKR σ c p A) : zz_T X 1 p_Cells_markRow [zP 1 p 0 c, zP 7 0 0 r, zI mk] σ (fun r σ' => r = some (zI (zz_sum (zm_f (zm_P mkr mk) (zm_add A l)) n - zz_sum (zm_f (zm_P mkr mk) A) n)) ∧ MKR σ' c p (zm_add A l) ∧ zz_F (fun a => a = c + 4) σ σ') := by
  refine zz_mk k_Cells_markRow o_Cells_markRow rfl rfl (Nat.le_of_ble_eq_true rfl) ?_
  show zz_G X 1 p_Cells_markRow 0 [zP 1 p 0 c, zP 7 0 0 r, zI mk, zU, zU, zU] [] σ _
  refine zz_gsn 7 rfl ?_
  refine zz_lse (ls' := [zP 1 p 0 c, zP 7 0 0 r, zI mk, zI (zz_sum (zm_f (zm_P mkr mk) A) n - zz_sum (zm_f (zm_P mkr mk) A) n), zI (σ.1 700 r), zI (0 : Nat)]) (by rw [Int.sub_self]; rfl) ?_
  exact lp_markRow (ln := l.length) hrc hn hb hpb zm_bd hmkr hlen (fun σ' h1 h2 => ⟨rfl, h1, h2⟩) l 0 A _ σ (Nat.zero_add _) hlt hch hM rfl zz_F.rf
end
section
/-! deeds: copied, one more -/
/-- all that an image keeps -/
def DF (σ : zz_M) (a : Nat) (ho law C told : Int) (k : Nat) (D : zz_D) : Prop := σ.1 200 a = ho ∧ σ.1 201 a = law ∧ σ.1 202 a = C ∧ σ.1 203 a = told ∧ DR σ a k D
theorem DF.f {A : Nat → Prop} {σ σ' : zz_M} {a k : Nat} {ho law C told : Int} {D : zz_D} (h : DF σ a ho law C told k D) (hF : zz_F A σ σ') (h0 : ∀ c, a ≤ c → c ≤ a + 3 → ¬ A c) : DF σ' a ho law C told k D := by
  have z := (hF a (h0 a (by omega) (by omega))).1
  exact ⟨(z 200).trans h.1, (z 201).trans h.2.1, (z 202).trans h.2.2.1, (z 203).trans h.2.2.2.1, h.2.2.2.2.f hF h0⟩
theorem lp_dbec {X : zz_X} {a b : Nat} {σ0 σ1 : zz_M} {Post : Option zz_V → zz_M → Prop} (hab : a + 3 < b ∨ b + 3 < a) (kk : ∀ σ' : zz_M, σ'.1 = σ1.1 → (∀ e, 1 ≤ e → e ≤ 3 → ∀ j, j < 60 → σ'.2 (a + e) j = σ0.2 (b + e) j) → zz_F (zz_A4 a) σ0 σ' → Post none σ') :
    ∀ (r i : Nat) (σ : zz_M), i + r = 60 → σ.1 = σ1.1 → (∀ e, 1 ≤ e → e ≤ 3 → ∀ j, j < i → σ.2 (a + e) j = σ0.2 (b + e) j) → zz_F (zz_A4 a) σ0 σ → zz_G X 1 p_Deeds_become 22 [zP 2 0 0 a, zP 2 0 0 b, zI (i : Nat)] [] σ Post := by
  intro r
  induction r with
  | zero =>
    intro i σ hi h1 h2 hF
    refine zz_gsn 2 rfl ?_
    refine zz_br rfl (fun h24 => ?_) (fun h24 => absurd h24 (by omega))
    refine zz_rv rfl rfl ?_
    exact kk σ h1 (fun e x y j hj => h2 e x y j (by omega)) hF
  | succ r ih =>
    intro i σ hi h1 h2 hF
    have ei : zw ((i : Int) + 1) = ((i + 1 : Nat) : Int) := by rw [zw_id (by omega) (by omega)]; omega
    have b1 : σ.2 (b + 1) i = σ0.2 (b + 1) i := (hF (b + 1) (by show ¬ (a ≤ b + 1 ∧ b + 1 ≤ a + 3); omega)).2 i
    have b2 : σ.2 (b + 2) i = σ0.2 (b + 2) i := (hF (b + 2) (by show ¬ (a ≤ b + 2 ∧ b + 2 ≤ a + 3); omega)).2 i
    have b3 : σ.2 (b + 3) i = σ0.2 (b + 3) i := (hF (b + 3) (by show ¬ (a ≤ b + 3 ∧ b + 3 ≤ a + 3); omega)).2 i
    refine zz_gsn 2 rfl ?_
    refine zz_br rfl (fun h24 => absurd h24 (by omega)) (fun h24 => ?_)
    refine zz_gsn 6 rfl ?_
    refine zz_ald rfl (by omega) ?_
    refine zz_ast rfl (by omega) ?_
    refine zz_gsn 6 rfl ?_
    refine zz_ald rfl (by omega) ?_
    refine zz_ast rfl (by omega) ?_
    refine zz_gsn 6 rfl ?_
    refine zz_ald rfl (by omega) ?_
    refine zz_ast rfl (by omega) ?_
    refine zz_gsn 1 rfl ?_
    refine zz_jp rfl ?_
    rw [ei]
    have F3 := (((zz_F.sa (i := (i : Int).toNat) (v := σ.2 (b + 1) (i : Int).toNat) (σ := σ) (A := zz_A4 a) (a := a + 1) ⟨by omega, by omega⟩)))
    refine ih (i + 1) _ (by omega) h1 (fun e x y j hj => ?_) (((hF.tr (zz_F.sa ⟨by omega, by omega⟩)).tr (zz_F.sa ⟨by omega, by omega⟩)).tr (zz_F.sa ⟨by omega, by omega⟩))
    have he : e = 1 ∨ e = 2 ∨ e = 3 := by omega
    rw [Int.toNat_natCast]
    by_cases z : j = i
    · subst z
      rcases he with e1 | e1 | e1 <;> subst e1
      · rw [sa_a _ _ (by omega), sa_a _ _ (by omega), sa_h]
        exact b1
      · rw [sa_a _ _ (by omega), sa_h, sa_a _ _ (by omega)]
        exact b2
      · rw [sa_h, sa_a _ _ (by omega), sa_a _ _ (by omega)]
        exact b3
    · rw [sa_i _ _ z, sa_i _ _ z, sa_i _ _ z]
      exact h2 e x y j (by omega)
theorem t_Deeds_become {X : zz_X} {σ : zz_M} {a b k : Nat} {ho law C told : Int} {D : zz_D} (hab : a + 3 < b ∨ b + 3 < a) (hD : DF σ b ho law C told k D) (hho : ho = 0 ∨ ho = 1) : zz_T X 1 p_Deeds_become [zP 2 0 0 a, zP 2 0 0 b] σ (fun r σ' => r = none ∧ DF σ' a ho law C told k D ∧ zz_F (zz_A4 a) σ σ') := by
  refine zz_mk k_Deeds_become o_Deeds_become rfl rfl (Nat.le_of_ble_eq_true rfl) ?_
  show zz_G X 1 p_Deeds_become 0 [zP 2 0 0 a, zP 2 0 0 b, zU] [] σ _
  obtain ⟨d1, d2, d3, d4, d5, d6, d7⟩ := hD
  refine zz_gsn 3 rfl ?_
  refine zz_ptz rfl (by rw [d1]; exact hho) ?_
  refine zz_gsn 18 rfl ?_
  refine zz_sge (σ' := zz_sf (zz_sf (zz_sf (zz_sf (zz_sf σ 200 a ho) 201 a law) 202 a C) 203 a told) 204 a (k : Nat)) (by rw [← d1, ← d2, ← d3, ← d4, ← d5]; rfl) ?_
  have F5 : zz_F (zz_A4 a) σ (zz_sf (zz_sf (zz_sf (zz_sf (zz_sf σ 200 a ho) 201 a law) 202 a C) 203 a told) 204 a (k : Nat)) := ((((zz_F.sf ⟨by omega, by omega⟩).tr (zz_F.sf ⟨by omega, by omega⟩)).tr (zz_F.sf ⟨by omega, by omega⟩)).tr (zz_F.sf ⟨by omega, by omega⟩)).tr (zz_F.sf ⟨by omega, by omega⟩)
  refine lp_dbec hab (σ0 := σ) (σ1 := zz_sf (zz_sf (zz_sf (zz_sf (zz_sf σ 200 a ho) 201 a law) 202 a C) 203 a told) 204 a (k : Nat)) (fun σ' x1 x2 x3 => ⟨rfl, ⟨?_, ?_, ?_, ?_, ?_, d6, fun j hj => ⟨?_, ?_, ?_⟩⟩, x3⟩) 60 0 _ rfl rfl (fun e _ _ j hj => absurd hj (Nat.not_lt_zero j)) F5
  · rw [x1, sf_f _ _ (by decide), sf_f _ _ (by decide), sf_f _ _ (by decide), sf_f _ _ (by decide), sf_h]
  · rw [x1, sf_f _ _ (by decide), sf_f _ _ (by decide), sf_f _ _ (by decide), sf_h]
  · rw [x1, sf_f _ _ (by decide), sf_f _ _ (by decide), sf_h]
  · rw [x1, sf_f _ _ (by decide), sf_h]
  · rw [x1, sf_h]
  · rw [x2 1 (by decide) (by decide) j (by omega)]
    exact (d7 j hj).1
  · rw [x2 2 (by decide) (by decide) j (by omega)]
    exact (d7 j hj).2.1
  · rw [x2 3 (by decide) (by decide) j (by omega)]
    exact (d7 j hj).2.2
theorem t_Deeds_add {X : zz_X} {σ : zz_M} {a k base : Nat} {kind x : Int} {D : zz_D} (hD : DR σ a k D) (hk : k < 60) : zz_T X 1 p_Deeds_add [zP 2 0 0 a, zI kind, zI (base : Nat), zI x] σ (fun r σ' => r = none ∧ DR σ' a (k + 1) (zu D k (kind, base, x)) ∧ zz_F (zz_A4 a) σ σ' ∧ (∀ f, f ≠ 204 → σ'.1 f a = σ.1 f a)) := by
  refine zz_mk k_Deeds_add o_Deeds_add rfl rfl (Nat.le_of_ble_eq_true rfl) ?_
  show zz_G X 1 p_Deeds_add 0 [zP 2 0 0 a, zI kind, zI (base : Nat), zI x] [] σ _
  obtain ⟨d5, d6, d7⟩ := hD
  have hob : 0 ≤ σ.1 204 a ∧ σ.1 204 a < 60 := ⟨by omega, by omega⟩
  refine zz_gsn 2 rfl ?_
  refine zz_br rfl (fun h2 => absurd h2 (by omega)) (fun h2 => ?_)
  refine zz_gsn 3 rfl ?_
  refine zz_br rfl (fun h6 => absurd h6 (by omega)) (fun h6 => ?_)
  refine zz_gsn 5 rfl ?_
  refine zz_ast rfl (hob) ?_
  refine zz_gsn 5 rfl ?_
  refine zz_ast rfl (hob) ?_
  refine zz_gsn 5 rfl ?_
  refine zz_ast rfl (hob) ?_
  refine zz_gsn 6 rfl ?_
  refine zz_rv rfl rfl ?_
  have ek : (σ.1 204 a).toNat = k := by rw [d5, Int.toNat_natCast]
  refine ⟨rfl, ⟨?_, by omega, fun j hj => ?_⟩, (((zz_F.sa ⟨by omega, by omega⟩).tr (zz_F.sa ⟨by omega, by omega⟩)).tr (zz_F.sa ⟨by omega, by omega⟩)).tr (zz_F.sf ⟨by omega, by omega⟩), fun f hf => sf_f _ _ hf⟩
  · rw [sf_h]
    show zw (σ.1 204 a + 1) = _
    rw [d5, zw_id (by omega) (by omega)]
    omega
  · show (zz_sa (zz_sa (zz_sa σ (a + 1) (σ.1 204 a).toNat kind) (a + 2) (σ.1 204 a).toNat (base : Nat)) (a + 3) (σ.1 204 a).toNat x).2 (a + 1) j = _ ∧ (zz_sa (zz_sa (zz_sa σ (a + 1) (σ.1 204 a).toNat kind) (a + 2) (σ.1 204 a).toNat (base : Nat)) (a + 3) (σ.1 204 a).toNat x).2 (a + 2) j = _ ∧ (zz_sa (zz_sa (zz_sa σ (a + 1) (σ.1 204 a).toNat kind) (a + 2) (σ.1 204 a).toNat (base : Nat)) (a + 3) (σ.1 204 a).toNat x).2 (a + 3) j = _
    rw [ek]
    by_cases z : j = k
    · subst z
      rw [zu_s]
      refine ⟨?_, ?_, sa_h _ _ _ _⟩
      · rw [sa_a _ _ (by omega), sa_a _ _ (by omega), sa_h]
      · rw [sa_a _ _ (by omega), sa_h]
    · rw [zu_n _ _ z]
      have hj2 : j < k := by omega
      refine ⟨?_, ?_, ?_⟩ <;> rw [sa_i _ _ z, sa_i _ _ z, sa_i _ _ z]
      · exact (d7 j hj2).1
      · exact (d7 j hj2).2.1
      · exact (d7 j hj2).2.2
end
section
/-! deeds: by another LAW -/
/-- only an evening LAW has deeds of the other two kinds -/
def zd_two (k : Nat) (D : zz_D) : Prop := ∃ j, j < k ∧ ((D j).1 = 2 ∨ (D j).1 = 3)
theorem lp_refuse {X : zz_X} {a k : Nat} {law : Int} {D : zz_D} {σ : zz_M} {Post : Option zz_V → zz_M → Prop} (hD : DR σ a k D) (k0 : law = 2 ∨ ¬ zd_two k D → Post (some (zI 0)) σ) (k1 : law ≠ 2 → zd_two k D → Post (some (zI (-1))) σ) :
    ∀ (r i : Nat), i + r = k → (∀ j, j < i → ¬ ((D j).1 = 2 ∨ (D j).1 = 3)) → zz_G X 2 p_Deeds_lawRefusal 12 [zP 2 0 0 a, zI law, zI (i : Nat)] [] σ Post := by
  obtain ⟨d1, d2, d3⟩ := hD
  intro r
  induction r with
  | zero =>
    intro i hi hno
    have hz : ¬ zd_two k D := fun ⟨j, h1, h2⟩ => hno j (by omega) h2
    refine zz_gsn 2 rfl ?_
    refine zz_br rfl (fun h14 => ?_) (fun h14 => ?_)
    · refine zz_gsn 1 rfl ?_
      refine zz_ri rfl (Or.inl rfl) ?_
      exact k0 (Or.inr hz)
    · refine zz_gsn 2 rfl ?_
      refine zz_cv (n := 2) rfl rfl (t_Deeds_hasDeed) (Nat.le_of_ble_eq_true rfl) (Nat.le_of_ble_eq_true rfl) (Nat.le_of_ble_eq_true rfl) (fun r17 σ17 q17 => ?_)
      obtain ⟨rfl, n17, rfl, e17⟩ := q17
      refine zz_br rfl (fun h18 => ?_) (fun h18 => absurd h18 (by omega))
      refine zz_gsn 1 rfl ?_
      refine zz_ri rfl (Or.inl rfl) ?_
      exact k0 (Or.inr hz)
  | succ r ih =>
    intro i hi hno
    have ei : zw ((i : Int) + 1) = ((i + 1 : Nat) : Int) := by rw [zw_id (by omega) (by omega)]; omega
    have hz : σ.2 (a + 1) i = (D i).1 := (d3 i (by omega)).1
    refine zz_gsn 2 rfl ?_
    refine zz_br rfl (fun h14 => ?_) (fun h14 => ?_)
    · refine zz_gsn 1 rfl ?_
      refine zz_ri rfl (Or.inl rfl) ?_
      exact k0 (Or.inl h14)
    · refine zz_gsn 2 rfl ?_
      refine zz_cv (n := 2) rfl rfl (t_Deeds_hasDeed) (Nat.le_of_ble_eq_true rfl) (Nat.le_of_ble_eq_true rfl) (Nat.le_of_ble_eq_true rfl) (fun r17 σ17 q17 => ?_)
      obtain ⟨rfl, n17, rfl, e17⟩ := q17
      refine zz_br rfl (fun h18 => absurd h18 (by omega)) (fun h18 => ?_)
      refine zz_gsn 3 rfl ?_
      refine zz_ald rfl (by omega) ?_
      refine zz_gsn 1 rfl ?_
      refine zz_br rfl (fun h24 => ?_) (fun h24 => ?_)
      · refine zz_gsn 1 rfl ?_
        refine zz_ri rfl (Or.inl rfl) ?_
        rw [Int.toNat_natCast, hz] at h24
        exact k1 h14 ⟨i, by omega, Or.inl h24⟩
      · refine zz_gsn 3 rfl ?_
        refine zz_ald rfl (by omega) ?_
        refine zz_gsn 1 rfl ?_
        refine zz_br rfl (fun h30 => ?_) (fun h30 => ?_)
        · refine zz_gsn 1 rfl ?_
          refine zz_jp rfl ?_
          rw [ei]
          rw [Int.toNat_natCast, hz] at h24 h30
          exact ih (i + 1) (by omega) (fun j hj => by
            by_cases z : j = i
            · subst z
              exact fun y => y.elim h24 h30
            · exact hno j (by omega))
        · refine zz_gsn 1 rfl ?_
          refine zz_ri rfl (Or.inl rfl) ?_
          rw [Int.toNat_natCast, hz] at h30
          exact k1 h14 ⟨i, by omega, Or.inr (by omega)⟩
theorem t_Deeds_lawRefusal {X : zz_X} {σ : zz_M} {a k : Nat} {law : Int} {D : zz_D} (hD : DR σ a k D) : zz_T X 2 p_Deeds_lawRefusal [zP 2 0 0 a, zI law] σ (fun r σ' => σ = σ' ∧ ∃ n : Int, r = some (zI n) ∧ ((n = -2 ∧ (σ.1 200 a = 0 ∨ law < 0 ∨ 2 < law)) ∨ (n = 0 ∧ σ.1 200 a ≠ 0 ∧ 0 ≤ law ∧ law ≤ 2 ∧ (law = 2 ∨ ¬ zd_two k D)) ∨ (n = -1 ∧ σ.1 200 a ≠ 0 ∧ 0 ≤ law ∧ law < 2 ∧ zd_two k D))) := by
  refine zz_mk k_Deeds_lawRefusal o_Deeds_lawRefusal rfl rfl (Nat.le_of_ble_eq_true rfl) ?_
  show zz_G X 2 p_Deeds_lawRefusal 0 [zP 2 0 0 a, zI law, zU] [] σ _
  refine zz_gsn 2 rfl ?_
  refine zz_br rfl (fun h2 => ?_) (fun h2 => ?_)
  · refine zz_gsn 1 rfl ?_
    refine zz_ri rfl (Or.inl rfl) ?_
    exact ⟨rfl, _, rfl, Or.inl ⟨rfl, by omega⟩⟩
  · refine zz_gsn 1 rfl ?_
    refine zz_br rfl (fun h4 => ?_) (fun h4 => ?_)
    · refine zz_gsn 1 rfl ?_
      refine zz_ri rfl (Or.inl rfl) ?_
      exact ⟨rfl, _, rfl, Or.inl ⟨rfl, by omega⟩⟩
    · refine zz_gsn 2 rfl ?_
      refine zz_br rfl (fun h7 => ?_) (fun h7 => ?_)
      · refine zz_gsn 2 rfl ?_
        exact lp_refuse hD (fun h => ⟨rfl, _, rfl, Or.inr (Or.inl ⟨rfl, h2, by omega, by omega, h⟩)⟩) (fun h1 h3 => ⟨rfl, _, rfl, Or.inr (Or.inr ⟨rfl, h2, by omega, by omega, h3⟩)⟩) k 0 (Nat.zero_add _) (fun j hj => absurd hj (Nat.not_lt_zero j))
      · refine zz_gsn 1 rfl ?_
        refine zz_ri rfl (Or.inl rfl) ?_
        exact ⟨rfl, _, rfl, Or.inl ⟨rfl, by omega⟩⟩
end
section
/-! the marks of a state -/
theorem SP.fm {σ σ' : zz_M} {p m s : Nat} {W : zz_W} (h : SP σ p m s W) (hd : m + 6 < s ∨ s + 6 < m) (hF : zz_F (fun a => a = m + 1 + 4) σ σ') : SP σ' p m s W := by
  obtain ⟨h1, h2, h3, h4, h5⟩ := h
  have f1 : ∀ a, a ≠ m + 1 + 4 → ∀ f, σ'.1 f a = σ.1 f a := fun a ha => (hF a ha).1
  have f2 : ∀ a, a ≠ m + 1 + 4 → σ'.2 a = σ.2 a := fun a ha => funext (hF a ha).2
  refine ⟨fun k hk => ?_, fun j a1 a2 => ?_, ?_, fun hp => ?_, h5⟩
  · rw [f1 _ (by omega), f1 _ (by omega), f2 _ (by omega)]
    exact h1 k hk
  · rw [f1 _ (by omega)]
    exact h2 j a1 a2
  · rw [f1 _ (by omega)]
    exact h3
  · rw [f1 _ (by omega), f2 _ (by omega), f2 _ (by omega)]
    exact h4 hp
def zm_N (mkr : Nat → Int) (mk : Int) (n : Nat) (A : Nat → Bool) : Int := zz_sum (zm_f (zm_P mkr mk) A) n
theorem zm_N_b {mkr : Nat → Int} {mk : Int} {n : Nat} {A : Nat → Bool} : 0 ≤ zm_N mkr mk n A ∧ zm_N mkr mk n A ≤ (n : Int) := zm_bd
def zm_st (A : Nat → Bool) (W : zz_W) : Nat → (Nat → Bool)
  | 0 => A
  | k + 1 => zm_add (zm_st A W k) (W.R k)
theorem zm_st_t {A : Nat → Bool} {W : zz_W} {y : Nat} : ∀ k, zm_st A W k y = true ↔ A y = true ∨ ∃ i, i < k ∧ y ∈ W.R i
  | 0 => ⟨fun h => Or.inl h, fun h => h.elim id (fun ⟨i, h1, _⟩ => absurd h1 (Nat.not_lt_zero i))⟩
  | k + 1 => by
    show zm_add (zm_st A W k) (W.R k) y = true ↔ _
    rw [zm_add_t, zm_st_t k]
    constructor
    · rintro ((h | ⟨i, h1, h2⟩) | h)
      · exact Or.inl h
      · exact Or.inr ⟨i, by omega, h2⟩
      · exact Or.inr ⟨k, by omega, h⟩
    · rintro (h | ⟨i, h1, h2⟩)
      · exact Or.inl (Or.inl h)
      · by_cases e : i = k
        · subst e
          exact Or.inr h2
        · exact Or.inl (Or.inr ⟨i, by omega, h2⟩)
theorem t_Cells_markState {X : zz_X} {σ : zz_M} {p m s : Nat} {mk : Int} {W : zz_W} {A : Nat → Bool} (hSP : SP σ p m s W) (hp : 0 < p) (hpb : p < 100000) (hd : m + 6 < s ∨ s + 6 < m) (hl : ∀ k, k < 6 → (W.R k).length < 100000) (hM : MKR σ (m + 1) p A) : zz_T X 2 p_Cells_markState [zP 1 p 0 (m + 1), zP 9 0 0 s, zI mk] σ (fun r σ' => r = some (zI (zm_N W.mkr mk W.n (zm_st A W 6) - zm_N W.mkr mk W.n A)) ∧ MKR σ' (m + 1) p (zm_st A W 6) ∧ zz_F (fun a => a = m + 1 + 4) σ σ') := by
  refine zz_mk k_Cells_markState o_Cells_markState rfl rfl (Nat.le_of_ble_eq_true rfl) ?_
  show zz_G X 2 p_Cells_markState 0 [zP 1 p 0 (m + 1), zP 9 0 0 s, zI mk] [] σ _
  have b0 := zm_N_b (mkr := W.mkr) (mk := mk) (n := W.n) (A := A)
  have hn := (hSP.2.2.2.1 hp).2.1
  refine zz_gsn 4 rfl ?_
  refine zz_cv (n := 3) rfl rfl (t_Cells_markRow (n := W.n) (mkr := W.mkr) (A := zm_st A W 0) (l := W.R 0) (by omega) (hSP.2.2.2.1 hp).2.1 (hl 0 (by decide)) hpb (fun i hi => ((hSP.2.2.2.1 hp).2.2 i hi).2) (hSP.1 0 (by decide)).1 (hSP.2.2.2.2 0 (by decide)) ((hSP.1 0 (by decide)).2 hp) hM) (Nat.le_of_ble_eq_true rfl) (Nat.le_of_ble_eq_true rfl) (Nat.le_of_ble_eq_true rfl) (fun r4 σ4 q4 => ?_)
  obtain ⟨rfl, m4, g4⟩ := q4
  have s4 := hSP.fm hd g4
  have b4 := zm_N_b (mkr := W.mkr) (mk := mk) (n := W.n) (A := zm_st A W 1)
  refine zz_gsn 4 rfl ?_
  refine zz_cv (n := 3) rfl rfl (t_Cells_markRow (n := W.n) (mkr := W.mkr) (A := zm_st A W 1) (l := W.R 1) (by omega) (s4.2.2.2.1 hp).2.1 (hl 1 (by decide)) hpb (fun i hi => ((s4.2.2.2.1 hp).2.2 i hi).2) (s4.1 1 (by decide)).1 (s4.2.2.2.2 1 (by decide)) ((s4.1 1 (by decide)).2 hp) m4) (Nat.le_of_ble_eq_true rfl) (Nat.le_of_ble_eq_true rfl) (Nat.le_of_ble_eq_true rfl) (fun r9 σ9 q9 => ?_)
  obtain ⟨rfl, m9, g9⟩ := q9
  have s9 := s4.fm hd g9
  have b9 := zm_N_b (mkr := W.mkr) (mk := mk) (n := W.n) (A := zm_st A W 2)
  refine zz_gsn 5 rfl ?_
  refine zz_cv (n := 3) rfl rfl (t_Cells_markRow (n := W.n) (mkr := W.mkr) (A := zm_st A W 2) (l := W.R 2) (by omega) (s9.2.2.2.1 hp).2.1 (hl 2 (by decide)) hpb (fun i hi => ((s9.2.2.2.1 hp).2.2 i hi).2) (s9.1 2 (by decide)).1 (s9.2.2.2.2 2 (by decide)) ((s9.1 2 (by decide)).2 hp) m9) (Nat.le_of_ble_eq_true rfl) (Nat.le_of_ble_eq_true rfl) (Nat.le_of_ble_eq_true rfl) (fun r15 σ15 q15 => ?_)
  obtain ⟨rfl, m15, g15⟩ := q15
  have s15 := s9.fm hd g15
  have b15 := zm_N_b (mkr := W.mkr) (mk := mk) (n := W.n) (A := zm_st A W 3)
  refine zz_gsn 5 rfl ?_
  refine zz_cv (n := 3) rfl rfl (t_Cells_markRow (n := W.n) (mkr := W.mkr) (A := zm_st A W 3) (l := W.R 3) (by omega) (s15.2.2.2.1 hp).2.1 (hl 3 (by decide)) hpb (fun i hi => ((s15.2.2.2.1 hp).2.2 i hi).2) (s15.1 3 (by decide)).1 (s15.2.2.2.2 3 (by decide)) ((s15.1 3 (by decide)).2 hp) m15) (Nat.le_of_ble_eq_true rfl) (Nat.le_of_ble_eq_true rfl) (Nat.le_of_ble_eq_true rfl) (fun r21 σ21 q21 => ?_)
  obtain ⟨rfl, m21, g21⟩ := q21
  have s21 := s15.fm hd g21
  have b21 := zm_N_b (mkr := W.mkr) (mk := mk) (n := W.n) (A := zm_st A W 4)
  refine zz_gsn 5 rfl ?_
  refine zz_cv (n := 3) rfl rfl (t_Cells_markRow (n := W.n) (mkr := W.mkr) (A := zm_st A W 4) (l := W.R 4) (by omega) (s21.2.2.2.1 hp).2.1 (hl 4 (by decide)) hpb (fun i hi => ((s21.2.2.2.1 hp).2.2 i hi).2) (s21.1 4 (by decide)).1 (s21.2.2.2.2 4 (by decide)) ((s21.1 4 (by decide)).2 hp) m21) (Nat.le_of_ble_eq_true rfl) (Nat.le_of_ble_eq_true rfl) (Nat.le_of_ble_eq_true rfl) (fun r27 σ27 q27 => ?_)
  obtain ⟨rfl, m27, g27⟩ := q27
  have s27 := s21.fm hd g27
  have b27 := zm_N_b (mkr := W.mkr) (mk := mk) (n := W.n) (A := zm_st A W 5)
  refine zz_gsn 5 rfl ?_
  refine zz_cv (n := 3) rfl rfl (t_Cells_markRow (n := W.n) (mkr := W.mkr) (A := zm_st A W 5) (l := W.R 5) (by omega) (s27.2.2.2.1 hp).2.1 (hl 5 (by decide)) hpb (fun i hi => ((s27.2.2.2.1 hp).2.2 i hi).2) (s27.1 5 (by decide)).1 (s27.2.2.2.2 5 (by decide)) ((s27.1 5 (by decide)).2 hp) m27) (Nat.le_of_ble_eq_true rfl) (Nat.le_of_ble_eq_true rfl) (Nat.le_of_ble_eq_true rfl) (fun r33 σ33 q33 => ?_)
  obtain ⟨rfl, m33, g33⟩ := q33
  have s33 := s27.fm hd g33
  have b33 := zm_N_b (mkr := W.mkr) (mk := mk) (n := W.n) (A := zm_st A W 6)
  refine zz_gsn 1 rfl ?_
  refine zz_ri rfl (Or.inl rfl) ?_
  refine ⟨?_, m33, ((((g4.tr g9).tr g15).tr g21).tr g27).tr g33⟩
  show some (zI (zw (zw (zw (zw (zw ((zm_N W.mkr mk W.n (zm_st A W 1) - zm_N W.mkr mk W.n A) + (zm_N W.mkr mk W.n (zm_st A W 2) - zm_N W.mkr mk W.n (zm_st A W 1))) + (zm_N W.mkr mk W.n (zm_st A W 3) - zm_N W.mkr mk W.n (zm_st A W 2))) + (zm_N W.mkr mk W.n (zm_st A W 4) - zm_N W.mkr mk W.n (zm_st A W 3))) + (zm_N W.mkr mk W.n (zm_st A W 5) - zm_N W.mkr mk W.n (zm_st A W 4))) + (zm_N W.mkr mk W.n (zm_st A W 6) - zm_N W.mkr mk W.n (zm_st A W 5))))) = some (zI (zm_N W.mkr mk W.n (zm_st A W 6) - zm_N W.mkr mk W.n A))
  generalize zm_N W.mkr mk W.n A = x0 at *
  generalize zm_N W.mkr mk W.n (zm_st A W 1) = x1 at *
  generalize zm_N W.mkr mk W.n (zm_st A W 2) = x2 at *
  generalize zm_N W.mkr mk W.n (zm_st A W 3) = x3 at *
  generalize zm_N W.mkr mk W.n (zm_st A W 4) = x4 at *
  generalize zm_N W.mkr mk W.n (zm_st A W 5) = x5 at *
  generalize zm_N W.mkr mk W.n (zm_st A W 6) = x6 at *
  rw [zw_id (x := (x1 - x0) + (x2 - x1)) (by omega) (by omega)]
  rw [zw_id (x := (x1 - x0) + (x2 - x1) + (x3 - x2)) (by omega) (by omega)]
  rw [zw_id (x := (x1 - x0) + (x2 - x1) + (x3 - x2) + (x4 - x3)) (by omega) (by omega)]
  rw [zw_id (x := (x1 - x0) + (x2 - x1) + (x3 - x2) + (x4 - x3) + (x5 - x4)) (by omega) (by omega)]
  rw [zw_id (x := (x1 - x0) + (x2 - x1) + (x3 - x2) + (x4 - x3) + (x5 - x4) + (x6 - x5)) (by omega) (by omega)]
  rw [show (x1 - x0) + (x2 - x1) + (x3 - x2) + (x4 - x3) + (x5 - x4) + (x6 - x5) = x6 - x0 by omega]
end
