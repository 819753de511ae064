/-! JUDGEMENTS over the pure machine: zz_G (a place in a method comes to its end), zz_T (a method's contract). -/
def zz_len : Instr → Nat
  | .iload_n _ | .lload_n _ | .aload_n _ | .istore_n _ | .astore_n _ | .iconst _ | .lconst _ | .aconst_null | .iadd | .isub | .imul | .idiv | .irem | .iand | .ior | .ishr | .iushr | .i2b | .i2l | .lsub | .land | .lcmp | .lshl | .lshr | .lushr | .dup | .dup2 | .pop | .arraylength | .iaload | .baload | .aaload | .iastore | .bastore | .ireturn | .areturn | .return_ => 1
  | .iload _ | .lload _ | .aload _ | .istore _ | .astore _ | .bipush _ | .ldc _ => 2
  | .sipush _ | .iinc _ _ | .getfield _ | .putfield _ | .ldc_w _ | .ldc2_w _ | .goto _ | .ifCond _ _ | .if_icmp _ _ | .ifnull _ | .ifnonnull _ | .invokevirtual _ | .invokestatic _ => 3
  | _ => 0
def zz_tg (code : List zz_C) (pc : Nat) (off : Int) (t : Nat) : Bool := match code[t]? with
  | some e => decide ((pc : Int) + off = (e.1 : Int))
  | none => false
def zz_end : Instr → Bool
  | .ireturn | .areturn | .return_ | .goto _ => true
  | _ => false
def zz_fT (f : Nat) : String × String × String × Bool := match zz_cl[f / 100]? with
  | some c => c.2.1 (f % 100)
  | none => ("", "", "", false)
/-- what else is asked of a row of code, by its instruction -/
def zz_ck (own : String) (maxL : Nat) (code : List zz_C) (pc len : Nat) (ins : Instr) (ts : List Nat) : Bool := match ins, ts with
  | .goto o, ts => decide (len = 3) && zz_tg code pc o (ts.getD 0 0)
  | .ifCond _ o, ts => decide (len = 3) && zz_tg code pc o (ts.getD 0 0)
  | .if_icmp _ o, ts => decide (len = 3) && zz_tg code pc o (ts.getD 0 0)
  | .ifnull o, ts => decide (len = 3) && zz_tg code pc o (ts.getD 0 0)
  | .ifnonnull o, ts => decide (len = 3) && zz_tg code pc o (ts.getD 0 0)
  | .tableswitch d lo hi offs, ts => decide (hi = lo + offs.size - 1) && decide (ts.length = offs.size + 1) && zz_tg code pc d (ts.getD 0 0) && (List.range offs.size).all (fun k => zz_tg code pc (offs.getD k 0) (ts.getD (k + 1) 0))
  | .lookupswitch d ps, ts => (ps.toList.zip (ps.toList.drop 1)).all (fun (a, next) => decide (a.1 < next.1)) && zz_tg code pc d (ts.getD 0 0) && (List.range ps.size).all (fun k => zz_tg code pc (ps.getD k (0, 0)).2 (ts.getD (k + 1) 0))
  | .iconst n, _ => decide (len = 1) && decide (-10 < n) && decide (n < 10)
  | .bipush n, _ => decide (len = 2) && decide ((Int8.ofInt n).toInt32 = Int32.ofInt n) && decide (-200 < n) && decide (n < 200)
  | .sipush n, _ => decide (len = 3) && decide ((Int16.ofInt n).toInt32 = Int32.ofInt n) && decide (-40000 < n) && decide (n < 40000)
  | .getfield _, ts => decide (len = 3) && decide (ts.getD 0 0 / 100 < 13) && decide (ts.getD 0 0 % 100 < zz_nf (ts.getD 0 0 / 100))
  | .putfield _, ts => decide (len = 3) && decide (ts.getD 0 0 / 100 < 13) && decide (ts.getD 0 0 % 100 < zz_nf (ts.getD 0 0 / 100)) && decide ((zz_fT (ts.getD 0 0)).2.2.2 = false)
  | .iinc k n, _ => decide (len = 3) && decide (k < maxL) && decide (-1000 < n) && decide (n < 1000)
  | .ldc i, ts => decide (len = 2) && (match ts with
    | [0, k] => decide ((zz_sr.getD k ("", 0, "")).1 = own) && decide ((zz_sr.getD k ("", 0, "")).2.1 = i) && decide (k < zz_nS)
    | [1, v] => decide (v < 1000000)
    | _ => false)
  | .ldc_w i, ts => decide (len = 3) && (match ts with
    | [0, k] => decide ((zz_sr.getD k ("", 0, "")).1 = own) && decide ((zz_sr.getD k ("", 0, "")).2.1 = i) && decide (k < zz_nS)
    | [1, v] => decide (v < 1000000)
    | _ => false)
  | .ldc2_w _, ts => decide (len = 3) && decide (ts.getD 0 0 < 1000000)
  | ins, _ => decide (len = zz_len ins)
/-- a row of code is what the bytes say; its targets are rows -/
def zz_dc (own : String) (bytes : ByteArray) (maxL : Nat) (code : List zz_C) (e : zz_C) (j : Nat) : Bool :=
  decide (decode bytes e.1 = .ok (e.2.1, e.2.2.1)) &&
  (match code[j + 1]? with
    | some e' => decide (e'.1 = e.1 + e.2.2.1)
    | none => zz_end e.2.1) && zz_ck own maxL code e.1 e.2.2.1 e.2.1 e.2.2.2
/-- the tables' words that a row of code wants -/
def zz_wd (mn : Nat → MethodName) (own : String) (e : zz_C) : List Cond := match e.2.1, e.2.2.2 with
  | .getfield i, f :: _ => [.fieldLink own i (zz_fT f).1 (zz_fT f).2.1 (zz_fT f).2.2.1]
  | .putfield i, f :: _ => [.fieldLink own i (zz_fT f).1 (zz_fT f).2.1 (zz_fT f).2.2.1]
  | .invokevirtual i, n :: _ => [.methodLink own i (mn n)]
  | .invokestatic i, [n] => [.methodLink own i (mn n)]
  | .invokestatic i, [n, _] => [.methodLinkNest own i (mn n) "TurnQueues"]
  | .ldc i, [1, v] => [.constant own i (Int32.ofInt (v : Nat))]
  | .ldc_w i, [1, v] => [.constant own i (Int32.ofInt (v : Nat))]
  | .ldc2_w i, v :: _ => [.constantLong own i (Int64.ofInt (v : Nat))]
  | _, _ => []
def zz_pc (P : zz_P) (j : Nat) : Nat := match P.code[j]? with
  | some e => e.1
  | none => 0
def zz_ml : List MethodName := [⟨"TurnQueues$Bytes", "<init>", "(I)V"⟩, ⟨"TurnQueues$Bytes", "add", "(I)V"⟩, ⟨"TurnQueues$Bytes", "addFour", "(I)V"⟩, ⟨"TurnQueues$Bytes", "addWord", "(Ljava/lang/String;)V"⟩, ⟨"TurnQueues$Bytes", "addNumber", "(I)V"⟩, ⟨"TurnQueues$Bytes", "byteAt", "(I)I"⟩, ⟨"TurnQueues$Bytes", "equalTo", "(LTurnQueues$Bytes;)Z"⟩, ⟨"TurnQueues$Cells", "<init>", "(I)V"⟩, ⟨"TurnQueues$Cells", "numberOf", "(I)I"⟩, ⟨"TurnQueues$Cells", "makerOf", "(I)I"⟩, ⟨"TurnQueues$Cells", "behind", "(I)I"⟩, ⟨"TurnQueues$Cells", "add", "(LTurnQueues$Row;II)V"⟩, ⟨"TurnQueues$Cells", "dropFirst", "(LTurnQueues$Row;)V"⟩, ⟨"TurnQueues$Cells", "cellIn", "(LTurnQueues$Row;I)I"⟩, ⟨"TurnQueues$Cells", "unmarkAll", "()V"⟩, ⟨"TurnQueues$Cells", "markState", "(LTurnQueues$State;I)I"⟩, ⟨"TurnQueues$Cells", "markRow", "(LTurnQueues$Row;I)I"⟩, ⟨"TurnQueues$Deeds", "<init>", "()V"⟩, ⟨"TurnQueues$Deeds", "clear", "()V"⟩, ⟨"TurnQueues$Deeds", "become", "(LTurnQueues$Deeds;)V"⟩, ⟨"TurnQueues$Deeds", "add", "(III)V"⟩, ⟨"TurnQueues$Deeds", "versions", "()I"⟩, ⟨"TurnQueues$Deeds", "lines", "()I"⟩, ⟨"TurnQueues$Deeds", "acts", "()I"⟩, ⟨"TurnQueues$Deeds", "hasVersion", "(I)Z"⟩, ⟨"TurnQueues$Deeds", "hasDeed", "(I)Z"⟩, ⟨"TurnQueues$Deeds", "baseOf", "(I)I"⟩, ⟨"TurnQueues$Deeds", "depth", "(I)I"⟩, ⟨"TurnQueues$Deeds", "meeting", "(II)I"⟩, ⟨"TurnQueues$Deeds", "madeOf", "(I)I"⟩, ⟨"TurnQueues$Deeds", "lawRefusal", "(I)I"⟩, ⟨"TurnQueues$History", "<init>", "()V"⟩, ⟨"TurnQueues$History", "become", "(LTurnQueues$Deeds;)V"⟩, ⟨"TurnQueues$History", "enact", "(I)V"⟩, ⟨"TurnQueues$History", "stateOf", "(I)LTurnQueues$State;"⟩, ⟨"TurnQueues$History", "queueOf", "(I)LTurnQueues$Numbers;"⟩, ⟨"TurnQueues$History", "rowOf", "(II)LTurnQueues$Row;"⟩, ⟨"TurnQueues$History", "hasAll", "(III)Z"⟩, ⟨"TurnQueues$History", "actPutting", "(III)I"⟩, ⟨"TurnQueues$History", "actTaking", "(II)I"⟩, ⟨"TurnQueues$History", "actAlongWay", "(II)I"⟩, ⟨"TurnQueues$History", "cutTo", "(I)V"⟩, ⟨"TurnQueues$History", "findWay", "(II)I"⟩, ⟨"TurnQueues$History", "wayDeed", "(I)I"⟩, ⟨"TurnQueues$History", "stepsOnWay", "(I)I"⟩, ⟨"TurnQueues$History", "mostOnWay", "(I)I"⟩, ⟨"TurnQueues$History", "stepsOf", "(I)I"⟩, ⟨"TurnQueues$History", "stepsOfAll", "()I"⟩, ⟨"TurnQueues$History", "dearestDeed", "()I"⟩, ⟨"TurnQueues$History", "overdueDeeds", "()I"⟩, ⟨"TurnQueues$History", "heldByAll", "()I"⟩, ⟨"TurnQueues$History", "heldBySet", "(J)I"⟩, ⟨"TurnQueues$History", "leastEqual", "(I)I"⟩, ⟨"TurnQueues$History", "leastToldAlike", "(I)I"⟩, ⟨"TurnQueues$History", "write", "(ILTurnQueues$Bytes;)V"⟩, ⟨"TurnQueues$History", "writeTurn", "(LTurnQueues$Bytes;LTurnQueues$State;)V"⟩, ⟨"TurnQueues$History", "writeCount", "(LTurnQueues$Bytes;Ljava/lang/String;I)V"⟩, ⟨"TurnQueues$History", "writeRow", "(LTurnQueues$Bytes;Ljava/lang/String;LTurnQueues$Row;)V"⟩, ⟨"TurnQueues$Mill", "<init>", "(II)V"⟩, ⟨"TurnQueues$Mill", "obey", "(II)V"⟩, ⟨"TurnQueues$Mill", "perform", "(LTurnQueues$State;III)I"⟩, ⟨"TurnQueues$Mill", "change", "(LTurnQueues$State;II)V"⟩, ⟨"TurnQueues$Mill", "move", "(LTurnQueues$Row;LTurnQueues$Row;)V"⟩, ⟨"TurnQueues$Mill", "turnAtOnce", "(LTurnQueues$State;)V"⟩, ⟨"TurnQueues$Mill", "disown", "(LTurnQueues$State;)V"⟩, ⟨"TurnQueues$Mill", "turnBySteps", "(LTurnQueues$State;)V"⟩, ⟨"TurnQueues$Mill", "beginTurning", "(LTurnQueues$State;)V"⟩, ⟨"TurnQueues$Mill", "turnOnce", "(LTurnQueues$State;)V"⟩, ⟨"TurnQueues$Mill", "even", "(LTurnQueues$State;I)V"⟩, ⟨"TurnQueues$Mill", "split", "(LTurnQueues$State;LTurnQueues$Row;LTurnQueues$Row;)V"⟩, ⟨"TurnQueues$Mill", "lay", "(LTurnQueues$Row;II)V"⟩, ⟨"TurnQueues$Mill", "laidAt", "(I)I"⟩, ⟨"TurnQueues$Numbers", "<init>", "(I)V"⟩, ⟨"TurnQueues$Numbers", "become", "(LTurnQueues$Numbers;)V"⟩, ⟨"TurnQueues$Numbers", "numberAt", "(I)I"⟩, ⟨"TurnQueues$Numbers", "change", "(II)I"⟩, ⟨"TurnQueues$Numbers", "insert", "(II)V"⟩, ⟨"TurnQueues$Numbers", "remove", "(I)I"⟩, ⟨"TurnQueues$Numbers", "equalTo", "(LTurnQueues$Numbers;)Z"⟩, ⟨"TurnQueues$Reader", "<init>", "()V"⟩, ⟨"TurnQueues$Reader", "readText", "(LTurnQueues$Bytes;)Z"⟩, ⟨"TurnQueues$Reader", "readHouseLine", "(LTurnQueues$Bytes;)V"⟩, ⟨"TurnQueues$Reader", "readDeedLine", "(LTurnQueues$Bytes;)V"⟩, ⟨"TurnQueues$Reader", "expectVersion", "(LTurnQueues$Bytes;Z)I"⟩, ⟨"TurnQueues$Reader", "kindOfWord", "(LTurnQueues$Bytes;)I"⟩, ⟨"TurnQueues$Reader", "refuse", "(I)V"⟩, ⟨"TurnQueues$Reader", "expectWord", "(LTurnQueues$Bytes;Ljava/lang/String;)V"⟩, ⟨"TurnQueues$Reader", "expectSign", "(LTurnQueues$Bytes;)V"⟩, ⟨"TurnQueues$Reader", "expectNumber", "(LTurnQueues$Bytes;II)I"⟩, ⟨"TurnQueues$Reader", "isWord", "(LTurnQueues$Bytes;Ljava/lang/String;)Z"⟩, ⟨"TurnQueues$Reader", "step", "(LTurnQueues$Bytes;)V"⟩, ⟨"TurnQueues$Reader", "readWord", "(LTurnQueues$Bytes;)V"⟩, ⟨"TurnQueues$Reader", "readNumber", "(LTurnQueues$Bytes;)V"⟩, ⟨"TurnQueues$Reader", "isBlank", "(I)Z"⟩, ⟨"TurnQueues$Reader", "isLetter", "(I)Z"⟩, ⟨"TurnQueues$Reader", "isDigit", "(I)Z"⟩, ⟨"TurnQueues$Row", "<init>", "()V"⟩, ⟨"TurnQueues$Row", "become", "(LTurnQueues$Row;)V"⟩, ⟨"TurnQueues$Row", "clear", "()V"⟩, ⟨"TurnQueues$Scout", "<init>", "()V"⟩, ⟨"TurnQueues$Scout", "tryAll", "(LTurnQueues$Deeds;LTurnQueues$State;I)V"⟩, ⟨"TurnQueues$Scout", "tryFrom", "(LTurnQueues$Scout;II)V"⟩, ⟨"TurnQueues$Scout", "noteDeed", "(III)V"⟩, ⟨"TurnQueues$Scout", "noteRow", "(I)V"⟩, ⟨"TurnQueues$Scout", "worstKind", "(I)I"⟩, ⟨"TurnQueues$Scout", "fewestFor", "(I)I"⟩, ⟨"TurnQueues$State", "<init>", "()V"⟩, ⟨"TurnQueues$State", "clearTurn", "()V"⟩, ⟨"TurnQueues$State", "become", "(LTurnQueues$State;)V"⟩, ⟨"TurnQueues$State", "isAtRest", "()Z"⟩, ⟨"TurnQueues$State", "rowNumbered", "(I)LTurnQueues$Row;"⟩, ⟨"TurnQueues$Trial", "<init>", "()V"⟩, ⟨"TurnQueues$Trial", "begin", "(LTurnQueues$Deeds;LTurnQueues$State;)V"⟩, ⟨"TurnQueues$Trial", "stepsOfAll", "(LTurnQueues$Deeds;II)I"⟩, ⟨"TurnQueues$Trial", "cheapestRatio", "(LTurnQueues$Deeds;)I"⟩, ⟨"TurnQueues$Trial", "putsTillTurned", "(LTurnQueues$Deeds;LTurnQueues$State;)I"⟩, ⟨"TurnQueues$Trial", "putsTillAtRest", "(LTurnQueues$Deeds;LTurnQueues$State;)I"⟩, ⟨"TurnQueues$Trial", "stepsToDrain", "(LTurnQueues$Deeds;LTurnQueues$State;)I"⟩, ⟨"TurnQueues$Trial", "stepsOfLetters", "(LTurnQueues$Deeds;LTurnQueues$State;LTurnQueues$Bytes;)I"⟩, ⟨"TurnQueues$Trial", "kindOfLetter", "(II)I"⟩, ⟨"TurnQueues$Trial", "graftWay", "(LTurnQueues$History;III)I"⟩, ⟨"TurnQueues$Trial", "graftDeed", "(LTurnQueues$Deeds;I)V"⟩, ⟨"TurnQueues", "<init>", "()V"⟩, ⟨"TurnQueues", "feed", "(IIIII)I"⟩, ⟨"TurnQueues", "end", "(I)I"⟩, ⟨"TurnQueues", "house", "()I"⟩, ⟨"TurnQueues", "fault", "(I)I"⟩, ⟨"TurnQueues", "count", "(I)I"⟩, ⟨"TurnQueues", "version", "(II)I"⟩, ⟨"TurnQueues", "size", "(I)I"⟩, ⟨"TurnQueues", "at", "(II)I"⟩, ⟨"TurnQueues", "first", "(I)I"⟩, ⟨"TurnQueues", "tail", "(I)I"⟩, ⟨"TurnQueues", "like", "(I)I"⟩, ⟨"TurnQueues", "forks", "(I)I"⟩, ⟨"TurnQueues", "meet", "(II)I"⟩, ⟨"TurnQueues", "apart", "(II)I"⟩, ⟨"TurnQueues", "state", "(II)I"⟩, ⟨"TurnQueues", "row", "(II)I"⟩, ⟨"TurnQueues", "cell", "(III)I"⟩, ⟨"TurnQueues", "twin", "(I)I"⟩, ⟨"TurnQueues", "path", "(II)I"⟩, ⟨"TurnQueues", "along", "(II)I"⟩, ⟨"TurnQueues", "origin", "(III)I"⟩, ⟨"TurnQueues", "from", "(II)I"⟩, ⟨"TurnQueues", "lost", "()I"⟩, ⟨"TurnQueues", "holds", "(I)I"⟩, ⟨"TurnQueues", "shares", "(II)I"⟩, ⟨"TurnQueues", "held", "(J)I"⟩, ⟨"TurnQueues", "made", "()I"⟩, ⟨"TurnQueues", "spent", "(I)I"⟩, ⟨"TurnQueues", "ledger", "()I"⟩, ⟨"TurnQueues", "dearest", "()I"⟩, ⟨"TurnQueues", "overdue", "()I"⟩, ⟨"TurnQueues", "by", "(I)I"⟩, ⟨"TurnQueues", "peak", "(I)I"⟩, ⟨"TurnQueues", "balanced", "(I)I"⟩, ⟨"TurnQueues", "balance", "()I"⟩, ⟨"TurnQueues", "until", "(I)I"⟩, ⟨"TurnQueues", "rest", "(I)I"⟩, ⟨"TurnQueues", "worst", "(III)I"⟩, ⟨"TurnQueues", "worstAt", "(III)I"⟩, ⟨"TurnQueues", "spike", "(II)I"⟩, ⟨"TurnQueues", "drain", "(I)I"⟩, ⟨"TurnQueues", "tell", "(I)I"⟩, ⟨"TurnQueues", "octet", "(I)I"⟩, ⟨"TurnQueues", "walk", "(I)I"⟩, ⟨"TurnQueues", "grafting", "(IIII)I"⟩, ⟨"TurnQueues", "grafted", "(IIII)I"⟩, ⟨"TurnQueues", "graft", "(III)I"⟩, ⟨"TurnQueues", "image", "(I)I"⟩, ⟨"TurnQueues", "back", "(I)I"⟩, ⟨"TurnQueues", "put", "(II)I"⟩, ⟨"TurnQueues", "take", "(I)I"⟩, ⟨"TurnQueues", "fore", "(II)I"⟩, ⟨"TurnQueues", "last", "(I)I"⟩, ⟨"TurnQueues", "undo", "()I"⟩, ⟨"TurnQueues", "anew", "()I"⟩, ⟨"TurnQueues", "isPutting", "(I)Z"⟩, ⟨"TurnQueuesModel", "<init>", "()V"⟩, ⟨"TurnQueuesModel", "in", "(JJJ)Z"⟩, ⟨"TurnQueuesModel", "ahead", "(II)I"⟩, ⟨"TurnQueuesModel", "lengthOf", "(I)I"⟩, ⟨"TurnQueuesModel", "of", "(II)I"⟩, ⟨"TurnQueuesModel", "sets", "(III)V"⟩, ⟨"TurnQueuesModel", "empties", "(I)V"⟩, ⟨"TurnQueuesModel", "copies", "(II)V"⟩, ⟨"TurnQueuesModel", "pushes", "(III)V"⟩, ⟨"TurnQueuesModel", "pops", "(II)I"⟩, ⟨"TurnQueuesModel", "deeds", "(IIII)I"⟩, ⟨"TurnQueuesModel", "turnsAll", "(I)V"⟩, ⟨"TurnQueuesModel", "goesOn", "(IZ)V"⟩, ⟨"TurnQueuesModel", "takenBy", "(I)V"⟩, ⟨"TurnQueuesModel", "becomesReady", "(I)V"⟩, ⟨"TurnQueuesModel", "begins", "(II)V"⟩, ⟨"TurnQueuesModel", "turns", "(I)V"⟩, ⟨"TurnQueuesModel", "evens", "(II)V"⟩, ⟨"TurnQueuesModel", "evensBy", "(III)V"⟩, ⟨"TurnQueuesModel", "asked", "(II)I"⟩, ⟨"TurnQueuesModel", "laysQueue", "(IIII)V"⟩, ⟨"TurnQueuesModel", "makes", "(III)I"⟩, ⟨"TurnQueuesModel", "beginsHouse", "()V"⟩, ⟨"TurnQueuesModel", "feed", "(IIIII)I"⟩, ⟨"TurnQueuesModel", "end", "(I)I"⟩, ⟨"TurnQueuesModel", "see", "(I)I"⟩, ⟨"TurnQueuesModel", "advance", "()V"⟩, ⟨"TurnQueuesModel", "good", "()Z"⟩, ⟨"TurnQueuesModel", "errs", "(I)V"⟩, ⟨"TurnQueuesModel", "is", "(Ljava/lang/String;)Z"⟩, ⟨"TurnQueuesModel", "takes", "(II)I"⟩, ⟨"TurnQueuesModel", "told", "(Ljava/lang/String;II)I"⟩, ⟨"TurnQueuesModel", "fault", "(I)I"⟩, ⟨"TurnQueuesModel", "kindHere", "()I"⟩, ⟨"TurnQueuesModel", "readDeed", "()V"⟩, ⟨"TurnQueuesModel", "house", "()I"⟩, ⟨"TurnQueuesModel", "isHouse", "()Z"⟩, ⟨"TurnQueuesModel", "isVersion", "(I)Z"⟩, ⟨"TurnQueuesModel", "deedMany", "()I"⟩, ⟨"TurnQueuesModel", "count", "(I)I"⟩, ⟨"TurnQueuesModel", "version", "(II)I"⟩, ⟨"TurnQueuesModel", "size", "(I)I"⟩, ⟨"TurnQueuesModel", "at", "(II)I"⟩, ⟨"TurnQueuesModel", "first", "(I)I"⟩, ⟨"TurnQueuesModel", "tail", "(I)I"⟩, ⟨"TurnQueuesModel", "areLike", "(II)Z"⟩, ⟨"TurnQueuesModel", "like", "(I)I"⟩, ⟨"TurnQueuesModel", "forks", "(I)I"⟩, ⟨"TurnQueuesModel", "meetOf", "(II)I"⟩, ⟨"TurnQueuesModel", "meet", "(II)I"⟩, ⟨"TurnQueuesModel", "apart", "(II)I"⟩, ⟨"TurnQueuesModel", "areLikeRows", "(III)Z"⟩, ⟨"TurnQueuesModel", "areTwins", "(II)Z"⟩, ⟨"TurnQueuesModel", "twin", "(I)I"⟩, ⟨"TurnQueuesModel", "deepOf", "(I)I"⟩, ⟨"TurnQueuesModel", "path", "(II)I"⟩, ⟨"TurnQueuesModel", "along", "(II)I"⟩, ⟨"TurnQueuesModel", "deedOf", "(I)I"⟩, ⟨"TurnQueuesModel", "origin", "(III)I"⟩, ⟨"TurnQueuesModel", "from", "(II)I"⟩, ⟨"TurnQueuesModel", "lost", "()I"⟩, ⟨"TurnQueuesModel", "state", "(II)I"⟩, ⟨"TurnQueuesModel", "row", "(II)I"⟩, ⟨"TurnQueuesModel", "cell", "(III)I"⟩, ⟨"TurnQueuesModel", "forgets", "()V"⟩, ⟨"TurnQueuesModel", "marks", "(II)V"⟩, ⟨"TurnQueuesModel", "marked", "(I)I"⟩, ⟨"TurnQueuesModel", "holds", "(I)I"⟩, ⟨"TurnQueuesModel", "shares", "(II)I"⟩, ⟨"TurnQueuesModel", "held", "(J)I"⟩, ⟨"TurnQueuesModel", "made", "()I"⟩, ⟨"TurnQueuesModel", "spent", "(I)I"⟩, ⟨"TurnQueuesModel", "ledger", "()I"⟩, ⟨"TurnQueuesModel", "dearest", "()I"⟩, ⟨"TurnQueuesModel", "overdue", "()I"⟩, ⟨"TurnQueuesModel", "replays", "(II)I"⟩, ⟨"TurnQueuesModel", "isTwoSided", "()Z"⟩, ⟨"TurnQueuesModel", "asksLaw", "(I)I"⟩, ⟨"TurnQueuesModel", "by", "(I)I"⟩, ⟨"TurnQueuesModel", "peak", "(I)I"⟩, ⟨"TurnQueuesModel", "balanced", "(I)I"⟩, ⟨"TurnQueuesModel", "balance", "()I"⟩, ⟨"TurnQueuesModel", "until", "(I)I"⟩, ⟨"TurnQueuesModel", "isAtRest", "(I)Z"⟩, ⟨"TurnQueuesModel", "rest", "(I)I"⟩, ⟨"TurnQueuesModel", "goes", "(III)V"⟩, ⟨"TurnQueuesModel", "goesAll", "(II)V"⟩, ⟨"TurnQueuesModel", "worstAt", "(III)I"⟩, ⟨"TurnQueuesModel", "spike", "(II)I"⟩, ⟨"TurnQueuesModel", "worst", "(III)I"⟩, ⟨"TurnQueuesModel", "drain", "(I)I"⟩, ⟨"TurnQueuesModel", "laysWay", "(II)Z"⟩, ⟨"TurnQueuesModel", "takesOut", "(I)V"⟩, ⟨"TurnQueuesModel", "putsIn", "(II)V"⟩, ⟨"TurnQueuesModel", "grafts", "(I)I"⟩, ⟨"TurnQueuesModel", "areThree", "(III)Z"⟩, ⟨"TurnQueuesModel", "grafting", "(IIII)I"⟩, ⟨"TurnQueuesModel", "grafted", "(IIII)I"⟩, ⟨"TurnQueuesModel", "graft", "(III)I"⟩, ⟨"TurnQueuesModel", "tells", "(Ljava/lang/String;)V"⟩, ⟨"TurnQueuesModel", "tellsNumber", "(I)V"⟩, ⟨"TurnQueuesModel", "tellsRow", "(Ljava/lang/String;I)V"⟩, ⟨"TurnQueuesModel", "tellsState", "(I)V"⟩, ⟨"TurnQueuesModel", "tell", "(I)I"⟩, ⟨"TurnQueuesModel", "octet", "(I)I"⟩, ⟨"TurnQueuesModel", "kindBy", "(I)I"⟩, ⟨"TurnQueuesModel", "walks", "(II)I"⟩, ⟨"TurnQueuesModel", "walk", "(I)I"⟩, ⟨"TurnQueuesModel", "isFull", "()Z"⟩, ⟨"TurnQueuesModel", "put", "(II)I"⟩, ⟨"TurnQueuesModel", "take", "(I)I"⟩, ⟨"TurnQueuesModel", "fore", "(II)I"⟩, ⟨"TurnQueuesModel", "last", "(I)I"⟩, ⟨"TurnQueuesModel", "image", "(I)I"⟩, ⟨"TurnQueuesModel", "back", "(I)I"⟩, ⟨"TurnQueuesModel", "takesBack", "()V"⟩, ⟨"TurnQueuesModel", "undo", "()I"⟩, ⟨"TurnQueuesModel", "anew", "()I"⟩, ⟨"java/lang/String", "length", "()I"⟩, ⟨"java/lang/String", "charAt", "(I)C"⟩, ⟨"java/lang/Math", "max", "(II)I"⟩, ⟨"java/lang/Math", "min", "(II)I"⟩, ⟨"java/lang/Math", "abs", "(I)I"⟩]
def zz_mn (n : Nat) : MethodName := zz_ml.getD n ⟨"", "", ""⟩
/-- the static ones -/
def zz_isS (n : Nat) : Bool := [93, 94, 95, 101, 119, 178, 180].contains n
def zz_okP (P : zz_P) : Prop := (P.code.zipIdx.all (fun q => zz_dc P.y.cls P.bytes P.maxL P.code q.1 q.2)) = true ∧ ∀ w ∈ P.code.flatMap (zz_wd zz_mn P.y.cls), w ∈ zz_tb
def zz_room (d : Nat) : Room := { frames := d, cells := 0, slots := 0, locals := 40 * d }
def zz_Q (X : zz_X) (Post : Option zz_V → zz_M → Prop) : Array Value → State → Outcome → State → Prop := fun _ st o t => (∃ (r : Option zz_V) (σ : zz_M), o = .returned (r.map (zz_toV X)) ∧ (∀ v, r = some v → zz_ok X v) ∧ Post r σ ∧ zz_R X σ t.heap) ∧ va_F (zz_A X) st t
def zz_G (X : zz_X) (d : Nat) (P : zz_P) (j : Nat) (ls st : List zz_V) (σ : zz_M) (Post : Option zz_V → zz_M → Prop) : Prop :=
  ∀ (p : Program) (e : Env) (s : State) (m : MethodId) (args : Array Value) (below : List Frame) (meth : Method) (c : Code) (H : Heap) (locs : List Loc) (lm : Array Slot),
    zz_okP P → p.tables.exec = Jvm.exec → c.code = P.bytes → c.maxLocals = P.maxL → meth.sig.returnType = P.ret → meth.locks = false → s.vm.findClass P.y.cls = some m.cls → (∀ w ∈ zz_tb, w.before args s = true) → zz_E X s s.heap → va_S (zz_A X) s.heap H locs → zz_R X σ H → lv_has lm P.maxL (zz_lv X ls) → ls.length = P.maxL → (∀ v ∈ ls, zz_ok X v) → (∀ v ∈ st, zz_ok X v) →
    W p X.l e (zz_room d) s m args below meth c H locs 0 0 (MQ below (zz_Q X Post) args s 0 0 (zz_A X)) (F0 m (zz_pc P j) lm (st.map (zz_toV X)))
theorem zw_in (x : Int) : zz_in (zw x) := by
  unfold zz_in zw
  omega
theorem zw_id {x : Int} (h1 : -2147483648 ≤ x) (h2 : x < 2147483648) : zw x = x := by
  unfold zw
  omega
theorem zw_bm (x : Int) : x.bmod (2 ^ 32) = zw x := by
  have e : ((2 ^ 32 : Nat) : Int) = 4294967296 := rfl
  rw [Int.bmod_def, e]
  unfold zw
  split <;> omega
theorem zz_ti (x : Int) : (Int32.ofInt x).toInt = zw x := by
  rw [Int32.toInt_ofInt, zw_bm]
theorem zz_tid {x : Int} (h : zz_in x) : (Int32.ofInt x).toInt = x := by
  rw [zz_ti]
  exact zw_id h.1 h.2
theorem zw_of (x : Int) : Int32.ofInt (zw x) = Int32.ofInt x := by
  rw [← zz_ti, Int32.ofInt_toInt]
theorem zz_i32 (v : Int32) : zz_in v.toInt := ⟨v.le_toInt, v.toInt_lt⟩
theorem zz_b_of (f : Int32 → Int32 → Int32) (x y : Int) : Int32.ofInt (zz_b f x y) = f (Int32.ofInt x) (Int32.ofInt y) := by
  unfold zz_b
  rw [Int32.ofInt_toInt]
theorem zz_l_of (f : Int64 → Int64 → Int64) (x y : Int) : Int64.ofInt (zz_l f x y) = f (Int64.ofInt x) (Int64.ofInt y) := by
  unfold zz_l
  rw [Int64.ofInt_toInt]
theorem zz_i64 (v : Int64) : zz_inL v.toInt := ⟨v.le_toInt, v.toInt_lt⟩
theorem zz_Lbm {x : Int} (h : zz_inL x) : (Int64.ofInt x).toInt = x := by
  obtain ⟨h1, h2⟩ := h
  have e : ((2 ^ 64 : Nat) : Int) = 18446744073709551616 := rfl
  rw [Int64.toInt_ofInt, Int.bmod_def, e]
  split <;> omega
theorem zz_eq0 {x y : Int} (hx : zz_in x) (hy : zz_in y) : Int32.ofInt x = Int32.ofInt y ↔ x = y := by
  rw [← Int32.toInt_inj, zz_tid hx, zz_tid hy]
theorem zz_lt0 {x y : Int} (hx : zz_in x) (hy : zz_in y) : Int32.ofInt x < Int32.ofInt y ↔ x < y := by
  rw [Int32.lt_iff_toInt_lt, zz_tid hx, zz_tid hy]
theorem zz_le0 {x y : Int} (hx : zz_in x) (hy : zz_in y) : Int32.ofInt x ≤ Int32.ofInt y ↔ x ≤ y := by
  rw [Int32.le_iff_toInt_le, zz_tid hx, zz_tid hy]

theorem zz_ws_at (X : zz_X) (σ : zz_M) {i : Nat} (h : i < zz_n) : (zz_ws X σ)[i]? = some (X.b + i, zz_ce X σ (X.b + i) (zz_K i)) := by
  unfold zz_ws
  rw [List.getElem?_map, List.getElem?_range h]
  rfl
theorem zz_ws_D (X : zz_X) (σ : zz_M) : va_D (zz_A X) (zz_ws X σ) := by
  have key : ∀ (k : Nat) (q : Nat × va_E), (zz_ws X σ)[k]? = some q → q.1 = X.b + k := by
    intro k q h
    have hl := (List.getElem?_eq_some_iff.mp h).1
    unfold zz_ws at hl
    rw [List.length_map, List.length_range] at hl
    rw [zz_ws_at X σ hl] at h
    cases h
    rfl
  refine ⟨fun i j p q hp hq e => ?_, fun k q h => ?_⟩
  · rw [key i p hp, key j q hq] at e
    omega
  · show X.b ≤ q.1
    rw [key k q h]
    omega
theorem zz_lv_mem {X : zz_X} {ls : List zz_V} {k : Nat} {v : zz_V} (h : ls[k]? = some v) (hv : v ≠ zU) : (k, zz_toV X v) ∈ zz_lv X ls := by
  refine List.mem_filterMap.mpr ⟨k, List.mem_range.mpr (List.getElem?_eq_some_iff.mp h).1, ?_⟩
  rw [h]
  rcases v with i | i | q | n
  · rfl
  · rfl
  · rfl
  · match n, hv with
    | 0, _ => rfl
    | 1, hv => exact absurd rfl hv
    | n + 2, _ => rfl
theorem zz_lv_of {X : zz_X} {ls : List zz_V} {q : Nat × Value} (h : q ∈ zz_lv X ls) : ∃ v, ls[q.1]? = some v ∧ v ≠ zU ∧ q.2 = zz_toV X v := by
  obtain ⟨k, -, h2⟩ := List.mem_filterMap.mp h
  cases hv : ls[k]? with
  | none => rw [hv] at h2; cases h2
  | some v =>
    rw [hv] at h2
    rcases v with i | i | r | n
    · cases h2; exact ⟨_, hv, (by intro z; cases z), rfl⟩
    · cases h2; exact ⟨_, hv, (by intro z; cases z), rfl⟩
    · cases h2; exact ⟨_, hv, (by intro z; cases z), rfl⟩
    · match n, hv, h2 with
      | 0, hv, h2 => cases h2; exact ⟨_, hv, (by intro z; cases z), rfl⟩
      | 1, hv, h2 => cases h2
      | n + 2, hv, h2 => cases h2; exact ⟨_, hv, (by intro z; cases z), rfl⟩
theorem zz_lv_at {X : zz_X} {lm : Array Slot} {n : Nat} {ls : List zz_V} {k : Nat} {v : zz_V} (hl : lv_has lm n (zz_lv X ls)) (h : ls[k]? = some v) (hv : v ≠ zU) : lm[k]? = some (.val (zz_toV X v)) := hl.2.2 _ (zz_lv_mem h hv)
theorem zz_lv_set {X : zz_X} {lm : Array Slot} {n : Nat} {ls ls' : List zz_V} {k : Nat} {v : zz_V} (hst : zz_st ls k v = some ls') (hl : lv_has lm n ((k, zz_toV X v) :: (zz_lv X ls).filter (fun q => !(q.1 == k) && !(q.1 + 1 == k && q.2.category == 2)))) : lv_has lm n (zz_lv X ls') ∧ ls'.length = ls.length ∧ k < ls.length ∧ ∀ w ∈ ls', w = v ∨ w ∈ ls := by
  have hk : k < ls.length := by
    unfold zz_st at hst
    by_cases h : k < ls.length
    · exact h
    · rw [decide_eq_false h] at hst; cases hst
  have hset : ls' = ls.set k v ∧ ∀ k' i, k = k' + 1 → ls[k']? ≠ some (zL i) := by
    unfold zz_st at hst
    rw [decide_eq_true hk] at hst
    cases k with
    | zero => cases hst; exact ⟨rfl, fun k' i h => by omega⟩
    | succ k =>
      dsimp only at hst
      cases hq : ls[k]? with
      | none =>
        rw [hq] at hst
        cases hst
        exact ⟨rfl, fun k' i h z => by
          have : k' = k := by omega
          subst this
          rw [hq] at z; cases z⟩
      | some w =>
        rw [hq] at hst
        rcases w with i | i | q | m
        · cases hst; exact ⟨rfl, fun k' i h z => by
            have : k' = k := by omega
            subst this
            rw [hq] at z; cases z⟩
        · cases hst
        · cases hst; exact ⟨rfl, fun k' i h z => by
            have : k' = k := by omega
            subst this
            rw [hq] at z; cases z⟩
        · cases hst; exact ⟨rfl, fun k' i h z => by
            have : k' = k := by omega
            subst this
            rw [hq] at z; cases z⟩
  obtain ⟨rfl, hlong⟩ := hset
  refine ⟨⟨hl.1, hl.2.1, fun q hq => hl.2.2 q ?_⟩, by simp, hk, fun w hw => ?_⟩
  · obtain ⟨w, h1, h2, h3⟩ := zz_lv_of hq
    by_cases e : q.1 = k
    · rw [e, List.getElem?_set_self hk] at h1
      cases h1
      rw [show q = (k, zz_toV X v) from Prod.ext e h3]
      exact List.mem_cons_self
    · rw [List.getElem?_set_ne (Ne.symm e)] at h1
      refine List.mem_cons_of_mem _ (List.mem_filter.mpr ⟨?_, ?_⟩)
      · rw [show q = (q.1, zz_toV X w) from Prod.ext rfl h3]
        exact zz_lv_mem h1 h2
      · simp only [Bool.and_eq_true, Bool.not_eq_true', beq_eq_false_iff_ne, Bool.and_eq_false_iff]
        refine ⟨e, ?_⟩
        by_cases e2 : q.1 + 1 = k
        · right
          rw [h3]
          rcases w with i | i | r | m
          · intro z; cases z
          · exact absurd h1 (hlong q.1 i e2.symm)
          · intro z; cases z
          · match m with
            | 0 => intro z; cases z
            | 1 => intro z; cases z
            | m + 2 => intro z; cases z
        · left; exact e2
  · obtain ⟨i, hi, e⟩ := List.mem_iff_getElem.mp hw
    rw [List.getElem_set] at e
    split at e
    · exact Or.inl e.symm
    · right; rw [← e]; exact List.getElem_mem _
