def RX0 : String := "ReviewTable$History"
def TX0 : u_T := fun k => match k with
  | 0 => ("ReviewTable$History", "count", "I", false)
  | 1 => ("ReviewTable$History", "next", "I", false)
  | _ => ("ReviewTable$History", "tables", "[LReviewTable$Table;", true)
def tyX0 : Nat → FieldType := fun k => match k with
  | 0 => .int
  | 1 => .int
  | _ => .array (.object "ReviewTable$Table")
abbrev wsX00 : List Cond := u_ws RX0 TX0 3
theorem nmX0 : ∀ a, a < 3 → ∀ b, b < 3 → a ≠ b → (TX0 a).2.1 ≠ (TX0 b).2.1 := by decide +kernel
theorem tyX0_ok : ∀ k, k < 3 → parseFieldDescriptor (TX0 k).2.2.1 = some (tyX0 k) := by decide +kernel
abbrev cX0_init : ByteArray := prog_2_method_1_code
def yX0_init : MethodName := ⟨RX0, "<init>", "()V"⟩
abbrev cX0_remember : ByteArray := prog_2_method_2_code
def yX0_remember : MethodName := ⟨RX0, "remember", "(LReviewTable$Table;)V"⟩
def RX1 : String := "ReviewTable$Input"
def TX1 : u_T := fun k => match k with
  | 0 => ("ReviewTable$Input", "bytes", "[I", true)
  | 1 => ("ReviewTable$Input", "length", "I", false)
  | _ => ("ReviewTable$Input", "text", "Ljava/lang/StringBuilder;", true)
def tyX1 : Nat → FieldType := fun k => match k with
  | 0 => .array .int
  | 1 => .int
  | _ => .object "java/lang/StringBuilder"
abbrev wsX10 : List Cond := u_ws RX1 TX1 3
theorem nmX1 : ∀ a, a < 3 → ∀ b, b < 3 → a ≠ b → (TX1 a).2.1 ≠ (TX1 b).2.1 := by decide +kernel
theorem tyX1_ok : ∀ k, k < 3 → parseFieldDescriptor (TX1 k).2.2.1 = some (tyX1 k) := by decide +kernel
abbrev cX1_init : ByteArray := prog_3_method_1_code
def yX1_init : MethodName := ⟨RX1, "<init>", "()V"⟩
abbrev cX1_addFourBytes : ByteArray := prog_3_method_2_code
def yX1_addFourBytes : MethodName := ⟨RX1, "addFourBytes", "(I)V"⟩
abbrev cX1_spells : ByteArray := prog_3_method_3_code
def yX1_spells : MethodName := ⟨RX1, "spells", "(IILjava/lang/String;)Z"⟩
abbrev cX1_textBetween : ByteArray := prog_3_method_4_code
def yX1_textBetween : MethodName := ⟨RX1, "textBetween", "(II)Ljava/lang/String;"⟩
def RX2 : String := "ReviewTable$Keyword"
def TX2 : u_T := fun k => match k with
  | _ => ("", "", "", false)
def tyX2 : Nat → FieldType := fun k => match k with
  | _ => .int
abbrev wsX20 : List Cond := u_ws RX2 TX2 0
theorem nmX2 : ∀ a, a < 0 → ∀ b, b < 0 → a ≠ b → (TX2 a).2.1 ≠ (TX2 b).2.1 := by decide +kernel
theorem tyX2_ok : ∀ k, k < 0 → parseFieldDescriptor (TX2 k).2.2.1 = some (tyX2 k) := by decide +kernel
def RX3 : String := "ReviewTable$Parser"
def TX3 : u_T := fun k => match k with
  | 0 => ("ReviewTable$Parser", "code", "I", false)
  | 1 => ("ReviewTable$Parser", "codePosition", "I", false)
  | 2 => ("ReviewTable$Parser", "input", "LReviewTable$Input;", true)
  | 3 => ("ReviewTable$Parser", "draft", "LReviewTable$Table;", true)
  | 4 => ("ReviewTable$Parser", "kind", "I", false)
  | 5 => ("ReviewTable$Parser", "start", "I", false)
  | 6 => ("ReviewTable$Parser", "end", "I", false)
  | 7 => ("ReviewTable$Parser", "value", "I", false)
  | _ => ("ReviewTable$Parser", "accepted", "I", false)
def tyX3 : Nat → FieldType := fun k => match k with
  | 0 => .int
  | 1 => .int
  | 2 => .object "ReviewTable$Input"
  | 3 => .object "ReviewTable$Table"
  | 4 => .int
  | 5 => .int
  | 6 => .int
  | 7 => .int
  | _ => .int
abbrev wsX30 : List Cond := u_ws RX3 TX3 9
theorem nmX3 : ∀ a, a < 9 → ∀ b, b < 9 → a ≠ b → (TX3 a).2.1 ≠ (TX3 b).2.1 := by decide +kernel
theorem tyX3_ok : ∀ k, k < 9 → parseFieldDescriptor (TX3 k).2.2.1 = some (tyX3 k) := by decide +kernel
abbrev cX3_init : ByteArray := prog_5_method_1_code
def yX3_init : MethodName := ⟨RX3, "<init>", "()V"⟩
abbrev cX3_parseText : ByteArray := prog_5_method_2_code
def yX3_parseText : MethodName := ⟨RX3, "parseText", "()Z"⟩
abbrev cX3_readTableStatement : ByteArray := prog_5_method_3_code
def yX3_readTableStatement : MethodName := ⟨RX3, "readTableStatement", "()Z"⟩
abbrev cX3_readStatement : ByteArray := prog_5_method_4_code
def yX3_readStatement : MethodName := ⟨RX3, "readStatement", "()Z"⟩
abbrev cX3_readWorkerStatement : ByteArray := prog_5_method_5_code
def yX3_readWorkerStatement : MethodName := ⟨RX3, "readWorkerStatement", "()Z"⟩
abbrev cX3_readRowsStatement : ByteArray := prog_5_method_6_code
def yX3_readRowsStatement : MethodName := ⟨RX3, "readRowsStatement", "()Z"⟩
abbrev cX3_readBarStatement : ByteArray := prog_5_method_7_code
def yX3_readBarStatement : MethodName := ⟨RX3, "readBarStatement", "()Z"⟩
abbrev cX3_readKeyword : ByteArray := prog_5_method_8_code
def yX3_readKeyword : MethodName := ⟨RX3, "readKeyword", "(LReviewTable$Keyword;)Z"⟩
abbrev cX3_readNumber : ByteArray := prog_5_method_9_code
def yX3_readNumber : MethodName := ⟨RX3, "readNumber", "(II)Z"⟩
abbrev cX3_readKnownName : ByteArray := prog_5_method_10_code
def yX3_readKnownName : MethodName := ⟨RX3, "readKnownName", "()Z"⟩
abbrev cX3_readSemicolon : ByteArray := prog_5_method_11_code
def yX3_readSemicolon : MethodName := ⟨RX3, "readSemicolon", "()Z"⟩
abbrev cX3_isAtNumber : ByteArray := prog_5_method_12_code
def yX3_isAtNumber : MethodName := ⟨RX3, "isAtNumber", "(II)Z"⟩
abbrev cX3_isAt : ByteArray := prog_5_method_13_code
def yX3_isAt : MethodName := ⟨RX3, "isAt", "(LReviewTable$Keyword;)Z"⟩
abbrev cX3_isAtName : ByteArray := prog_5_method_14_code
def yX3_isAtName : MethodName := ⟨RX3, "isAtName", "()Z"⟩
abbrev cX3_fail : ByteArray := prog_5_method_15_code
def yX3_fail : MethodName := ⟨RX3, "fail", "(I)Z"⟩
abbrev cX3_nextToken : ByteArray := prog_5_method_16_code
def yX3_nextToken : MethodName := ⟨RX3, "nextToken", "()V"⟩
abbrev cX3_readDigits : ByteArray := prog_5_method_17_code
def yX3_readDigits : MethodName := ⟨RX3, "readDigits", "()V"⟩
abbrev cX3_kindAt : ByteArray := prog_5_method_18_code
def yX3_kindAt : MethodName := ⟨RX3, "kindAt", "(I)I"⟩
abbrev cX3_isBlank : ByteArray := prog_5_method_19_code
def yX3_isBlank : MethodName := ⟨RX3, "isBlank", "(I)Z"⟩
def RX4 : String := "ReviewTable$Row"
def TX4 : u_T := fun k => match k with
  | 0 => ("ReviewTable$Row", "size", "I", false)
  | 1 => ("ReviewTable$Row", "state", "I", false)
  | 2 => ("ReviewTable$Row", "result", "I", false)
  | 3 => ("ReviewTable$Row", "audited", "Z", false)
  | 4 => ("ReviewTable$Row", "rightNumber", "I", false)
  | 5 => ("ReviewTable$Row", "tookBefore", "I", false)
  | 6 => ("ReviewTable$Row", "firstFinisher", "I", false)
  | 7 => ("ReviewTable$Row", "secondFinisher", "I", false)
  | 8 => ("ReviewTable$Row", "takingCount", "I", false)
  | _ => ("ReviewTable$Row", "takings", "[I", true)
def tyX4 : Nat → FieldType := fun k => match k with
  | 0 => .int
  | 1 => .int
  | 2 => .int
  | 3 => .boolean
  | 4 => .int
  | 5 => .int
  | 6 => .int
  | 7 => .int
  | 8 => .int
  | _ => .array .int
abbrev wsX40 : List Cond := u_ws RX4 TX4 10
theorem nmX4 : ∀ a, a < 10 → ∀ b, b < 10 → a ≠ b → (TX4 a).2.1 ≠ (TX4 b).2.1 := by decide +kernel
theorem tyX4_ok : ∀ k, k < 10 → parseFieldDescriptor (TX4 k).2.2.1 = some (tyX4 k) := by decide +kernel
abbrev cX4_init : ByteArray := prog_6_method_1_code
def yX4_init : MethodName := ⟨RX4, "<init>", "()V"⟩
abbrev cX4_begin : ByteArray := prog_6_method_2_code
def yX4_begin : MethodName := ⟨RX4, "begin", "(I)V"⟩
abbrev cX4_copyFrom : ByteArray := prog_6_method_3_code
def yX4_copyFrom : MethodName := ⟨RX4, "copyFrom", "(LReviewTable$Row;)V"⟩
abbrev cX4_isClosed : ByteArray := prog_6_method_4_code
def yX4_isClosed : MethodName := ⟨RX4, "isClosed", "()Z"⟩
abbrev cX4_workerAt : ByteArray := prog_6_method_5_code
def yX4_workerAt : MethodName := ⟨RX4, "workerAt", "(I)I"⟩
abbrev cX4_resultAt : ByteArray := prog_6_method_6_code
def yX4_resultAt : MethodName := ⟨RX4, "resultAt", "(I)I"⟩
abbrev cX4_dueAt : ByteArray := prog_6_method_7_code
def yX4_dueAt : MethodName := ⟨RX4, "dueAt", "(I)I"⟩
abbrev cX4_isInWork : ByteArray := prog_6_method_8_code
def yX4_isInWork : MethodName := ⟨RX4, "isInWork", "(I)Z"⟩
abbrev cX4_isLateAt : ByteArray := prog_6_method_9_code
def yX4_isLateAt : MethodName := ⟨RX4, "isLateAt", "(II)Z"⟩
abbrev cX4_missingWorkers : ByteArray := prog_6_method_10_code
def yX4_missingWorkers : MethodName := ⟨RX4, "missingWorkers", "()I"⟩
abbrev cX4_takingBy : ByteArray := prog_6_method_11_code
def yX4_takingBy : MethodName := ⟨RX4, "takingBy", "(I)I"⟩
abbrev cX4_leastDue : ByteArray := prog_6_method_13_code
def yX4_leastDue : MethodName := ⟨RX4, "leastDue", "()I"⟩
abbrev cX4_countLateAt : ByteArray := prog_6_method_14_code
def yX4_countLateAt : MethodName := ⟨RX4, "countLateAt", "(I)I"⟩
abbrev cX4_addTaking : ByteArray := prog_6_method_15_code
def yX4_addTaking : MethodName := ⟨RX4, "addTaking", "(II)V"⟩
abbrev cX4_enterResult : ByteArray := prog_6_method_16_code
def yX4_enterResult : MethodName := ⟨RX4, "enterResult", "(II)V"⟩
abbrev cX4_moveTaking : ByteArray := prog_6_method_17_code
def yX4_moveTaking : MethodName := ⟨RX4, "moveTaking", "(II)V"⟩
abbrev cX4_setTaking : ByteArray := prog_6_method_18_code
def yX4_setTaking : MethodName := ⟨RX4, "setTaking", "(IIII)V"⟩
def RX5 : String := "ReviewTable$Table"
def TX5 : u_T := fun k => match k with
  | 0 => ("ReviewTable$Table", "tolerance", "I", false)
  | 1 => ("ReviewTable$Table", "patience", "I", false)
  | 2 => ("ReviewTable$Table", "least", "I", false)
  | 3 => ("ReviewTable$Table", "time", "I", false)
  | 4 => ("ReviewTable$Table", "workerCount", "I", false)
  | 5 => ("ReviewTable$Table", "rowCount", "I", false)
  | 6 => ("ReviewTable$Table", "workers", "[LReviewTable$Worker;", true)
  | 7 => ("ReviewTable$Table", "rows", "[LReviewTable$Row;", true)
  | 8 => ("ReviewTable$Table", "strikeCount", "[I", true)
  | _ => ("ReviewTable$Table", "toldApart", "[I", true)
def tyX5 : Nat → FieldType := fun k => match k with
  | 0 => .int
  | 1 => .int
  | 2 => .int
  | 3 => .int
  | 4 => .int
  | 5 => .int
  | 6 => .array (.object "ReviewTable$Worker")
  | 7 => .array (.object "ReviewTable$Row")
  | 8 => .array .int
  | _ => .array .int
abbrev wsX50 : List Cond := u_ws RX5 TX5 10
theorem nmX5 : ∀ a, a < 10 → ∀ b, b < 10 → a ≠ b → (TX5 a).2.1 ≠ (TX5 b).2.1 := by decide +kernel
theorem tyX5_ok : ∀ k, k < 10 → parseFieldDescriptor (TX5 k).2.2.1 = some (tyX5 k) := by decide +kernel
abbrev cX5_init : ByteArray := prog_7_method_1_code
def yX5_init : MethodName := ⟨RX5, "<init>", "()V"⟩
abbrev cX5_clear : ByteArray := prog_7_method_2_code
def yX5_clear : MethodName := ⟨RX5, "clear", "()V"⟩
abbrev cX5_copyFrom : ByteArray := prog_7_method_3_code
def yX5_copyFrom : MethodName := ⟨RX5, "copyFrom", "(LReviewTable$Table;)V"⟩
abbrev cX5_putWorker : ByteArray := prog_7_method_4_code
def yX5_putWorker : MethodName := ⟨RX5, "putWorker", "(Ljava/lang/String;III)V"⟩
abbrev cX5_hasRoomFor : ByteArray := prog_7_method_5_code
def yX5_hasRoomFor : MethodName := ⟨RX5, "hasRoomFor", "(I)Z"⟩
abbrev cX5_putRows : ByteArray := prog_7_method_6_code
def yX5_putRows : MethodName := ⟨RX5, "putRows", "(II)V"⟩
abbrev cX5_workerNamed : ByteArray := prog_7_method_7_code
def yX5_workerNamed : MethodName := ⟨RX5, "workerNamed", "(LReviewTable$Input;II)I"⟩
abbrev cX5_pairIndex : ByteArray := prog_7_method_8_code
def yX5_pairIndex : MethodName := ⟨RX5, "pairIndex", "(II)I"⟩
abbrev cX5_tellApart : ByteArray := prog_7_method_9_code
def yX5_tellApart : MethodName := ⟨RX5, "tellApart", "(IIZ)V"⟩
abbrev cX5_areKeptApart : ByteArray := prog_7_method_10_code
def yX5_areKeptApart : MethodName := ⟨RX5, "areKeptApart", "(II)Z"⟩
abbrev cX5_agree : ByteArray := prog_7_method_11_code
def yX5_agree : MethodName := ⟨RX5, "agree", "(II)Z"⟩
abbrev cX5_isSuspended : ByteArray := prog_7_method_12_code
def yX5_isSuspended : MethodName := ⟨RX5, "isSuspended", "(I)Z"⟩
abbrev cX5_countAudited : ByteArray := prog_7_method_13_code
def yX5_countAudited : MethodName := ⟨RX5, "countAudited", "()I"⟩
abbrev cX5_countInState : ByteArray := prog_7_method_14_code
def yX5_countInState : MethodName := ⟨RX5, "countInState", "(I)I"⟩
abbrev cX5_reasonAgainst : ByteArray := prog_7_method_16_code
def yX5_reasonAgainst : MethodName := ⟨RX5, "reasonAgainst", "(II)I"⟩
abbrev cX5_clashWith : ByteArray := prog_7_method_17_code
def yX5_clashWith : MethodName := ⟨RX5, "clashWith", "(ILReviewTable$Row;)I"⟩
abbrev cX5_rowsFor : ByteArray := prog_7_method_18_code
def yX5_rowsFor : MethodName := ⟨RX5, "rowsFor", "(I)I"⟩
abbrev cX5_chosenRow : ByteArray := prog_7_method_20_code
def yX5_chosenRow : MethodName := ⟨RX5, "chosenRow", "(I)I"⟩
abbrev cX5_urgency : ByteArray := prog_7_method_21_code
def yX5_urgency : MethodName := ⟨RX5, "urgency", "(LReviewTable$Row;)I"⟩
abbrev cX5_startTaking : ByteArray := prog_7_method_26_code
def yX5_startTaking : MethodName := ⟨RX5, "startTaking", "(II)I"⟩
abbrev cX5_enterResult : ByteArray := prog_7_method_27_code
def yX5_enterResult : MethodName := ⟨RX5, "enterResult", "(III)V"⟩
abbrev cX5_settle : ByteArray := prog_7_method_28_code
def yX5_settle : MethodName := ⟨RX5, "settle", "(ILReviewTable$Verdict;)V"⟩
abbrev cX5_reward : ByteArray := prog_7_method_29_code
def yX5_reward : MethodName := ⟨RX5, "reward", "(II)V"⟩
abbrev cX5_letPass : ByteArray := prog_7_method_30_code
def yX5_letPass : MethodName := ⟨RX5, "letPass", "(I)I"⟩
abbrev cX5_dropWork : ByteArray := prog_7_method_31_code
def yX5_dropWork : MethodName := ⟨RX5, "dropWork", "(LReviewTable$Row;Z)I"⟩
abbrev cX5_endWork : ByteArray := prog_7_method_32_code
def yX5_endWork : MethodName := ⟨RX5, "endWork", "(LReviewTable$Worker;Z)V"⟩
abbrev cX5_giveUp : ByteArray := prog_7_method_33_code
def yX5_giveUp : MethodName := ⟨RX5, "giveUp", "(LReviewTable$Row;)I"⟩
abbrev cX5_examine : ByteArray := prog_7_method_34_code
def yX5_examine : MethodName := ⟨RX5, "examine", "(LReviewTable$Row;I)Z"⟩
def RX6 : String := "ReviewTable$Verdict"
def TX6 : u_T := fun k => match k with
  | 0 => ("ReviewTable$Verdict", "state", "I", false)
  | 1 => ("ReviewTable$Verdict", "result", "I", false)
  | 2 => ("ReviewTable$Verdict", "earlier", "I", false)
  | 3 => ("ReviewTable$Verdict", "later", "I", false)
  | 4 => ("ReviewTable$Verdict", "change", "[I", true)
  | 5 => ("ReviewTable$Verdict", "results", "[I", true)
  | _ => ("ReviewTable$Verdict", "trusts", "[I", true)
def tyX6 : Nat → FieldType := fun k => match k with
  | 0 => .int
  | 1 => .int
  | 2 => .int
  | 3 => .int
  | 4 => .array .int
  | 5 => .array .int
  | _ => .array .int
abbrev wsX60 : List Cond := u_ws RX6 TX6 7
theorem nmX6 : ∀ a, a < 7 → ∀ b, b < 7 → a ≠ b → (TX6 a).2.1 ≠ (TX6 b).2.1 := by decide +kernel
theorem tyX6_ok : ∀ k, k < 7 → parseFieldDescriptor (TX6 k).2.2.1 = some (tyX6 k) := by decide +kernel
abbrev cX6_init : ByteArray := prog_8_method_1_code
def yX6_init : MethodName := ⟨RX6, "<init>", "()V"⟩
abbrev cX6_judge : ByteArray := prog_8_method_2_code
def yX6_judge : MethodName := ⟨RX6, "judge", "(LReviewTable$Table;LReviewTable$Row;II)V"⟩
abbrev cX6_judgePair : ByteArray := prog_8_method_3_code
def yX6_judgePair : MethodName := ⟨RX6, "judgePair", "(LReviewTable$Table;)V"⟩
abbrev cX6_judgeThird : ByteArray := prog_8_method_4_code
def yX6_judgeThird : MethodName := ⟨RX6, "judgeThird", "(LReviewTable$Table;)V"⟩
abbrev cX6_finishBy : ByteArray := prog_8_method_5_code
def yX6_finishBy : MethodName := ⟨RX6, "finishBy", "(II)V"⟩
def RX7 : String := "ReviewTable$Worker"
def TX7 : u_T := fun k => match k with
  | 0 => ("ReviewTable$Worker", "name", "Ljava/lang/String;", false)
  | 1 => ("ReviewTable$Worker", "team", "I", false)
  | 2 => ("ReviewTable$Worker", "quota", "I", false)
  | 3 => ("ReviewTable$Worker", "trust", "I", false)
  | 4 => ("ReviewTable$Worker", "inWork", "I", false)
  | 5 => ("ReviewTable$Worker", "made", "I", false)
  | 6 => ("ReviewTable$Worker", "delivered", "I", false)
  | 7 => ("ReviewTable$Worker", "finished", "I", false)
  | 8 => ("ReviewTable$Worker", "late", "I", false)
  | _ => ("ReviewTable$Worker", "points", "I", false)
def tyX7 : Nat → FieldType := fun k => match k with
  | 0 => .object "java/lang/String"
  | 1 => .int
  | 2 => .int
  | 3 => .int
  | 4 => .int
  | 5 => .int
  | 6 => .int
  | 7 => .int
  | 8 => .int
  | _ => .int
abbrev wsX70 : List Cond := u_ws RX7 TX7 10
theorem nmX7 : ∀ a, a < 10 → ∀ b, b < 10 → a ≠ b → (TX7 a).2.1 ≠ (TX7 b).2.1 := by decide +kernel
theorem tyX7_ok : ∀ k, k < 10 → parseFieldDescriptor (TX7 k).2.2.1 = some (tyX7 k) := by decide +kernel
abbrev cX7_init : ByteArray := prog_9_method_1_code
def yX7_init : MethodName := ⟨RX7, "<init>", "()V"⟩
abbrev cX7_begin : ByteArray := prog_9_method_2_code
def yX7_begin : MethodName := ⟨RX7, "begin", "(Ljava/lang/String;III)V"⟩
abbrev cX7_copyFrom : ByteArray := prog_9_method_3_code
def yX7_copyFrom : MethodName := ⟨RX7, "copyFrom", "(LReviewTable$Worker;)V"⟩
abbrev cX7_changeTrust : ByteArray := prog_9_method_4_code
def yX7_changeTrust : MethodName := ⟨RX7, "changeTrust", "(I)V"⟩
def RX8 : String := "ReviewTable"
def TX8 : u_T := fun k => match k with
  | 0 => ("ReviewTable", "parser", "LReviewTable$Parser;", true)
  | 1 => ("ReviewTable", "input", "LReviewTable$Input;", true)
  | 2 => ("ReviewTable", "table", "LReviewTable$Table;", true)
  | 3 => ("ReviewTable", "history", "LReviewTable$History;", true)
  | 4 => ("ReviewTable", "slots", "[LReviewTable$Table;", true)
  | 5 => ("ReviewTable", "slotFilled", "[Z", true)
  | 6 => ("ReviewTable", "verdict", "LReviewTable$Verdict;", true)
  | 7 => ("ReviewTable", "output", "Ljava/lang/StringBuilder;", true)
  | 8 => ("ReviewTable", "parseCode", "I", false)
  | _ => ("ReviewTable", "parsePosition", "I", false)
def tyX8 : Nat → FieldType := fun k => match k with
  | 0 => .object "ReviewTable$Parser"
  | 1 => .object "ReviewTable$Input"
  | 2 => .object "ReviewTable$Table"
  | 3 => .object "ReviewTable$History"
  | 4 => .array (.object "ReviewTable$Table")
  | 5 => .array .boolean
  | 6 => .object "ReviewTable$Verdict"
  | 7 => .object "java/lang/StringBuilder"
  | 8 => .int
  | _ => .int
abbrev wsX80 : List Cond := u_ws RX8 TX8 10
theorem nmX8 : ∀ a, a < 10 → ∀ b, b < 10 → a ≠ b → (TX8 a).2.1 ≠ (TX8 b).2.1 := by decide +kernel
theorem tyX8_ok : ∀ k, k < 10 → parseFieldDescriptor (TX8 k).2.2.1 = some (tyX8 k) := by decide +kernel
abbrev cX8_init : ByteArray := prog_1_method_1_code
def yX8_init : MethodName := ⟨RX8, "<init>", "()V"⟩
abbrev cX8_append : ByteArray := prog_1_method_2_code
def yX8_append : MethodName := ⟨RX8, "append", "(IIIII)I"⟩
abbrev cX8_truncate : ByteArray := prog_1_method_3_code
def yX8_truncate : MethodName := ⟨RX8, "truncate", "(I)V"⟩
abbrev cX8_load : ByteArray := prog_1_method_4_code
def yX8_load : MethodName := ⟨RX8, "load", "()I"⟩
abbrev cX8_errorCode : ByteArray := prog_1_method_5_code
def yX8_errorCode : MethodName := ⟨RX8, "errorCode", "()I"⟩
abbrev cX8_errorPosition : ByteArray := prog_1_method_6_code
def yX8_errorPosition : MethodName := ⟨RX8, "errorPosition", "()I"⟩
abbrev cX8_property : ByteArray := prog_1_method_8_code
def yX8_property : MethodName := ⟨RX8, "property", "(I)I"⟩
abbrev cX8_worker : ByteArray := prog_1_method_9_code
def yX8_worker : MethodName := ⟨RX8, "worker", "(II)I"⟩
abbrev cX8_row : ByteArray := prog_1_method_10_code
def yX8_row : MethodName := ⟨RX8, "row", "(II)I"⟩
abbrev cX8_taking : ByteArray := prog_1_method_11_code
def yX8_taking : MethodName := ⟨RX8, "taking", "(III)I"⟩
abbrev cX8_finishers : ByteArray := prog_1_method_12_code
def yX8_finishers : MethodName := ⟨RX8, "finishers", "(I)I"⟩
abbrev cX8_strikes : ByteArray := prog_1_method_20_code
def yX8_strikes : MethodName := ⟨RX8, "strikes", "(II)I"⟩
abbrev cX8_isBarred : ByteArray := prog_1_method_21_code
def yX8_isBarred : MethodName := ⟨RX8, "isBarred", "(II)Z"⟩
abbrev cX8_nextDue : ByteArray := prog_1_method_29_code
def yX8_nextDue : MethodName := ⟨RX8, "nextDue", "()I"⟩
abbrev cX8_lateIn : ByteArray := prog_1_method_30_code
def yX8_lateIn : MethodName := ⟨RX8, "lateIn", "(I)I"⟩
abbrev cX8_stateIf : ByteArray := prog_1_method_31_code
def yX8_stateIf : MethodName := ⟨RX8, "stateIf", "(III)I"⟩
abbrev cX8_trustIf : ByteArray := prog_1_method_32_code
def yX8_trustIf : MethodName := ⟨RX8, "trustIf", "(IIII)I"⟩
abbrev cX8_left : ByteArray := prog_1_method_36_code
def yX8_left : MethodName := ⟨RX8, "left", "()I"⟩
abbrev cX8_take : ByteArray := prog_1_method_40_code
def yX8_take : MethodName := ⟨RX8, "take", "(I)I"⟩
abbrev cX8_takeRow : ByteArray := prog_1_method_41_code
def yX8_takeRow : MethodName := ⟨RX8, "takeRow", "(II)I"⟩
abbrev cX8_deliver : ByteArray := prog_1_method_42_code
def yX8_deliver : MethodName := ⟨RX8, "deliver", "(III)I"⟩
abbrev cX8_pass : ByteArray := prog_1_method_43_code
def yX8_pass : MethodName := ⟨RX8, "pass", "(I)I"⟩
abbrev cX8_audit : ByteArray := prog_1_method_44_code
def yX8_audit : MethodName := ⟨RX8, "audit", "(II)Z"⟩
abbrev cX8_setAside : ByteArray := prog_1_method_45_code
def yX8_setAside : MethodName := ⟨RX8, "setAside", "(I)I"⟩
abbrev cX8_pardon : ByteArray := prog_1_method_46_code
def yX8_pardon : MethodName := ⟨RX8, "pardon", "(I)I"⟩
abbrev cX8_bar : ByteArray := prog_1_method_47_code
def yX8_bar : MethodName := ⟨RX8, "bar", "(IIZ)Z"⟩
abbrev cX8_addRows : ByteArray := prog_1_method_48_code
def yX8_addRows : MethodName := ⟨RX8, "addRows", "(II)I"⟩
abbrev cX8_setTable : ByteArray := prog_1_method_49_code
def yX8_setTable : MethodName := ⟨RX8, "setTable", "(II)I"⟩
abbrev cX8_requireRange : ByteArray := prog_1_method_58_code
def yX8_requireRange : MethodName := ⟨RX8, "requireRange", "(III)V"⟩
abbrev cX8_requireSetting : ByteArray := prog_1_method_59_code
def yX8_requireSetting : MethodName := ⟨RX8, "requireSetting", "(II)V"⟩
abbrev cX8_requireWorker : ByteArray := prog_1_method_61_code
def yX8_requireWorker : MethodName := ⟨RX8, "requireWorker", "(I)V"⟩
abbrev cX8_requireRow : ByteArray := prog_1_method_62_code
def yX8_requireRow : MethodName := ⟨RX8, "requireRow", "(I)V"⟩
abbrev cX8_requireInWork : ByteArray := prog_1_method_63_code
def yX8_requireInWork : MethodName := ⟨RX8, "requireInWork", "(II)I"⟩
abbrev cX8_withinTrust : ByteArray := prog_1_method_68_code
def yX8_withinTrust : MethodName := ⟨RX8, "withinTrust", "(I)I"⟩
def RX9 : String := "ReviewTableModel"
def TX9 : u_T := fun k => match k with
  | _ => ("", "", "", false)
def tyX9 : Nat → FieldType := fun k => match k with
  | _ => .int
abbrev wsX90 : List Cond := u_ws RX9 TX9 0
theorem nmX9 : ∀ a, a < 0 → ∀ b, b < 0 → a ≠ b → (TX9 a).2.1 ≠ (TX9 b).2.1 := by decide +kernel
theorem tyX9_ok : ∀ k, k < 0 → parseFieldDescriptor (TX9 k).2.2.1 = some (tyX9 k) := by decide +kernel
def RJx145de : String := "java/io/Serializable"
def TJx145de : u_T := fun k => match k with
  | _ => ("", "", "", false)
def tyJx145de : Nat → FieldType := fun k => match k with
  | _ => .int
abbrev wsJx145de0 : List Cond := u_ws RJx145de TJx145de 0
theorem nmJx145de : ∀ a, a < 0 → ∀ b, b < 0 → a ≠ b → (TJx145de a).2.1 ≠ (TJx145de b).2.1 := by decide +kernel
theorem tyJx145de_ok : ∀ k, k < 0 → parseFieldDescriptor (TJx145de k).2.2.1 = some (tyJx145de k) := by decide +kernel
def RJ5 : String := "java/lang/AbstractStringBuilder"
def TJ5 : u_T := fun k => match k with
  | _ => ("", "", "", false)
def tyJ5 : Nat → FieldType := fun k => match k with
  | _ => .int
abbrev wsJ50 : List Cond := u_ws RJ5 TJ5 0
theorem nmJ5 : ∀ a, a < 0 → ∀ b, b < 0 → a ≠ b → (TJ5 a).2.1 ≠ (TJ5 b).2.1 := by decide +kernel
theorem tyJ5_ok : ∀ k, k < 0 → parseFieldDescriptor (TJ5 k).2.2.1 = some (tyJ5 k) := by decide +kernel
abbrev cJ5_init_d00df : ByteArray := prog_12_method_2_code
def yJ5_init_d00df : MethodName := ⟨RJ5, "<init>", "(I)V"⟩
abbrev cJ5_init_a7421 : ByteArray := prog_12_method_3_code
def yJ5_init_a7421 : MethodName := ⟨RJ5, "<init>", "(Ljava/lang/String;)V"⟩
abbrev cJ5_length_8abf5 : ByteArray := prog_12_method_6_code
def yJ5_length_8abf5 : MethodName := ⟨RJ5, "length", "()I"⟩
abbrev cJ5_ensureCapacityInternal_d00df : ByteArray := prog_12_method_9_code
def yJ5_ensureCapacityInternal_d00df : MethodName := ⟨RJ5, "ensureCapacityInternal", "(I)V"⟩
abbrev cJ5_newCapacity_0f7a4 : ByteArray := prog_12_method_10_code
def yJ5_newCapacity_0f7a4 : MethodName := ⟨RJ5, "newCapacity", "(I)I"⟩
abbrev cJ5_inflate_da8c8 : ByteArray := prog_12_method_11_code
def yJ5_inflate_da8c8 : MethodName := ⟨RJ5, "inflate", "()V"⟩
abbrev cJ5_setLength_d00df : ByteArray := prog_12_method_13_code
def yJ5_setLength_d00df : MethodName := ⟨RJ5, "setLength", "(I)V"⟩
abbrev cJ5_append_cf1ce : ByteArray := prog_12_method_22_code
def yJ5_append_cf1ce : MethodName := ⟨RJ5, "append", "(Ljava/lang/String;)Ljava/lang/AbstractStringBuilder;"⟩
abbrev cJ5_appendNull_278bc : ByteArray := prog_12_method_26_code
def yJ5_appendNull_278bc : MethodName := ⟨RJ5, "appendNull", "()Ljava/lang/AbstractStringBuilder;"⟩
abbrev cJ5_append_3fe6f : ByteArray := prog_12_method_31_code
def yJ5_append_3fe6f : MethodName := ⟨RJ5, "append", "(C)Ljava/lang/AbstractStringBuilder;"⟩
abbrev cJ5_append_c97b9 : ByteArray := prog_12_method_32_code
def yJ5_append_c97b9 : MethodName := ⟨RJ5, "append", "(I)Ljava/lang/AbstractStringBuilder;"⟩
abbrev cJ5_getValue_6d5f1 : ByteArray := prog_12_method_64_code
def yJ5_getValue_6d5f1 : MethodName := ⟨RJ5, "getValue", "()[B"⟩
abbrev cJ5_isLatin1_aae02 : ByteArray := prog_12_method_68_code
def yJ5_isLatin1_aae02 : MethodName := ⟨RJ5, "isLatin1", "()Z"⟩
abbrev cJ5_inflateIfNeededFor_a7421 : ByteArray := prog_12_method_71_code
def yJ5_inflateIfNeededFor_a7421 : MethodName := ⟨RJ5, "inflateIfNeededFor", "(Ljava/lang/String;)V"⟩
abbrev cJ5_putStringAt_47b60 : ByteArray := prog_12_method_73_code
def yJ5_putStringAt_47b60 : MethodName := ⟨RJ5, "putStringAt", "(ILjava/lang/String;)V"⟩
def RJx2cfe8 : String := "java/lang/Appendable"
def TJx2cfe8 : u_T := fun k => match k with
  | _ => ("", "", "", false)
def tyJx2cfe8 : Nat → FieldType := fun k => match k with
  | _ => .int
abbrev wsJx2cfe80 : List Cond := u_ws RJx2cfe8 TJx2cfe8 0
theorem nmJx2cfe8 : ∀ a, a < 0 → ∀ b, b < 0 → a ≠ b → (TJx2cfe8 a).2.1 ≠ (TJx2cfe8 b).2.1 := by decide +kernel
theorem tyJx2cfe8_ok : ∀ k, k < 0 → parseFieldDescriptor (TJx2cfe8 k).2.2.1 = some (tyJx2cfe8 k) := by decide +kernel
def RJx9f9b0 : String := "java/lang/CharSequence"
def TJx9f9b0 : u_T := fun k => match k with
  | _ => ("", "", "", false)
def tyJx9f9b0 : Nat → FieldType := fun k => match k with
  | _ => .int
abbrev wsJx9f9b00 : List Cond := u_ws RJx9f9b0 TJx9f9b0 0
theorem nmJx9f9b0 : ∀ a, a < 0 → ∀ b, b < 0 → a ≠ b → (TJx9f9b0 a).2.1 ≠ (TJx9f9b0 b).2.1 := by decide +kernel
theorem tyJx9f9b0_ok : ∀ k, k < 0 → parseFieldDescriptor (TJx9f9b0 k).2.2.1 = some (tyJx9f9b0 k) := by decide +kernel
def RJx8e188 : String := "java/lang/Cloneable"
def TJx8e188 : u_T := fun k => match k with
  | _ => ("", "", "", false)
def tyJx8e188 : Nat → FieldType := fun k => match k with
  | _ => .int
abbrev wsJx8e1880 : List Cond := u_ws RJx8e188 TJx8e188 0
theorem nmJx8e188 : ∀ a, a < 0 → ∀ b, b < 0 → a ≠ b → (TJx8e188 a).2.1 ≠ (TJx8e188 b).2.1 := by decide +kernel
theorem tyJx8e188_ok : ∀ k, k < 0 → parseFieldDescriptor (TJx8e188 k).2.2.1 = some (tyJx8e188 k) := by decide +kernel
def RJxb160c : String := "java/lang/Comparable"
def TJxb160c : u_T := fun k => match k with
  | _ => ("", "", "", false)
def tyJxb160c : Nat → FieldType := fun k => match k with
  | _ => .int
abbrev wsJxb160c0 : List Cond := u_ws RJxb160c TJxb160c 0
theorem nmJxb160c : ∀ a, a < 0 → ∀ b, b < 0 → a ≠ b → (TJxb160c a).2.1 ≠ (TJxb160c b).2.1 := by decide +kernel
theorem tyJxb160c_ok : ∀ k, k < 0 → parseFieldDescriptor (TJxb160c k).2.2.1 = some (tyJxb160c k) := by decide +kernel
def RJx29ce0 : String := "java/lang/Enum"
def TJx29ce0 : u_T := fun k => match k with
  | _ => ("", "", "", false)
def tyJx29ce0 : Nat → FieldType := fun k => match k with
  | _ => .int
abbrev wsJx29ce00 : List Cond := u_ws RJx29ce0 TJx29ce0 0
theorem nmJx29ce0 : ∀ a, a < 0 → ∀ b, b < 0 → a ≠ b → (TJx29ce0 a).2.1 ≠ (TJx29ce0 b).2.1 := by decide +kernel
theorem tyJx29ce0_ok : ∀ k, k < 0 → parseFieldDescriptor (TJx29ce0 k).2.2.1 = some (tyJx29ce0 k) := by decide +kernel
def RJ6 : String := "java/lang/Integer"
def TJ6 : u_T := fun k => match k with
  | _ => ("", "", "", false)
def tyJ6 : Nat → FieldType := fun k => match k with
  | _ => .int
abbrev wsJ60 : List Cond := u_ws RJ6 TJ6 0
theorem nmJ6 : ∀ a, a < 0 → ∀ b, b < 0 → a ≠ b → (TJ6 a).2.1 ≠ (TJ6 b).2.1 := by decide +kernel
theorem tyJ6_ok : ∀ k, k < 0 → parseFieldDescriptor (TJ6 k).2.2.1 = some (tyJ6 k) := by decide +kernel
abbrev cJ6_getChars_ba4f3 : ByteArray := prog_19_method_12_code
def yJ6_getChars_ba4f3 : MethodName := ⟨RJ6, "getChars", "(II[B)I"⟩
abbrev cJ6_stringSize_0f7a4 : ByteArray := prog_19_method_13_code
def yJ6_stringSize_0f7a4 : MethodName := ⟨RJ6, "stringSize", "(I)I"⟩
abbrev cJ6_numberOfLeadingZeros_0f7a4 : ByteArray := prog_19_method_47_code
def yJ6_numberOfLeadingZeros_0f7a4 : MethodName := ⟨RJ6, "numberOfLeadingZeros", "(I)I"⟩
abbrev cJ6_numberOfTrailingZeros_0f7a4 : ByteArray := prog_19_method_48_code
def yJ6_numberOfTrailingZeros_0f7a4 : MethodName := ⟨RJ6, "numberOfTrailingZeros", "(I)I"⟩
abbrev cJ6_bitCount_0f7a4 : ByteArray := prog_19_method_49_code
def yJ6_bitCount_0f7a4 : MethodName := ⟨RJ6, "bitCount", "(I)I"⟩
def RJ9 : String := "java/lang/Math"
def TJ9 : u_T := fun k => match k with
  | _ => ("", "", "", false)
def tyJ9 : Nat → FieldType := fun k => match k with
  | _ => .int
abbrev wsJ90 : List Cond := u_ws RJ9 TJ9 0
theorem nmJ9 : ∀ a, a < 0 → ∀ b, b < 0 → a ≠ b → (TJ9 a).2.1 ≠ (TJ9 b).2.1 := by decide +kernel
theorem tyJ9_ok : ∀ k, k < 0 → parseFieldDescriptor (TJ9 k).2.2.1 = some (tyJ9 k) := by decide +kernel
abbrev cJ9_abs_0f7a4 : ByteArray := prog_20_method_59_code
def yJ9_abs_0f7a4 : MethodName := ⟨RJ9, "abs", "(I)I"⟩
abbrev cJ9_max_7cf53 : ByteArray := prog_20_method_65_code
def yJ9_max_7cf53 : MethodName := ⟨RJ9, "max", "(II)I"⟩
abbrev cJ9_min_7cf53 : ByteArray := prog_20_method_69_code
def yJ9_min_7cf53 : MethodName := ⟨RJ9, "min", "(II)I"⟩
def RJxd2413 : String := "java/lang/Number"
def TJxd2413 : u_T := fun k => match k with
  | _ => ("", "", "", false)
def tyJxd2413 : Nat → FieldType := fun k => match k with
  | _ => .int
abbrev wsJxd24130 : List Cond := u_ws RJxd2413 TJxd2413 0
theorem nmJxd2413 : ∀ a, a < 0 → ∀ b, b < 0 → a ≠ b → (TJxd2413 a).2.1 ≠ (TJxd2413 b).2.1 := by decide +kernel
theorem tyJxd2413_ok : ∀ k, k < 0 → parseFieldDescriptor (TJxd2413 k).2.2.1 = some (tyJxd2413 k) := by decide +kernel
def RJ0 : String := "java/lang/String"
def TJ0 : u_T := fun k => match k with
  | 0 => ("java/lang/String", "value", "[B", true)
  | 1 => ("java/lang/String", "coder", "B", true)
  | 2 => ("java/lang/String", "hash", "I", false)
  | _ => ("java/lang/String", "hashIsZero", "Z", false)
def tyJ0 : Nat → FieldType := fun k => match k with
  | 0 => .array .byte
  | 1 => .byte
  | 2 => .int
  | _ => .boolean
abbrev wsJ00 : List Cond := u_ws RJ0 TJ0 4
theorem nmJ0 : ∀ a, a < 4 → ∀ b, b < 4 → a ≠ b → (TJ0 a).2.1 ≠ (TJ0 b).2.1 := by decide +kernel
theorem tyJ0_ok : ∀ k, k < 4 → parseFieldDescriptor (TJ0 k).2.2.1 = some (tyJ0 k) := by decide +kernel
abbrev cJ0_init_81219 : ByteArray := prog_23_method_53_code
def yJ0_init_81219 : MethodName := ⟨RJ0, "<init>", "(Ljava/lang/StringBuilder;)V"⟩
abbrev cJ0_length_8abf5 : ByteArray := prog_23_method_54_code
def yJ0_length_8abf5 : MethodName := ⟨RJ0, "length", "()I"⟩
abbrev cJ0_charAt_5068e : ByteArray := prog_23_method_56_code
def yJ0_charAt_5068e : MethodName := ⟨RJ0, "charAt", "(I)C"⟩
abbrev cJ0_getBytes_840e7 : ByteArray := prog_23_method_147_code
def yJ0_getBytes_840e7 : MethodName := ⟨RJ0, "getBytes", "([BIB)V"⟩
abbrev cJ0_init_db425 : ByteArray := prog_23_method_150_code
def yJ0_init_db425 : MethodName := ⟨RJ0, "<init>", "(Ljava/lang/AbstractStringBuilder;Ljava/lang/Void;)V"⟩
abbrev cJ0_coder_7d493 : ByteArray := prog_23_method_152_code
def yJ0_coder_7d493 : MethodName := ⟨RJ0, "coder", "()B"⟩
abbrev cJ0_isLatin1_aae02 : ByteArray := prog_23_method_154_code
def yJ0_isLatin1_aae02 : MethodName := ⟨RJ0, "isLatin1", "()Z"⟩
abbrev cJ0_checkIndex_df160 : ByteArray := prog_23_method_155_code
def yJ0_checkIndex_df160 : MethodName := ⟨RJ0, "checkIndex", "(II)V"⟩
abbrev cJ0_checkBoundsOffCount_cabcc : ByteArray := prog_23_method_157_code
def yJ0_checkBoundsOffCount_cabcc : MethodName := ⟨RJ0, "checkBoundsOffCount", "(III)I"⟩
abbrev cJ0_checkBoundsBeginEnd_23922 : ByteArray := prog_23_method_158_code
def yJ0_checkBoundsBeginEnd_23922 : MethodName := ⟨RJ0, "checkBoundsBeginEnd", "(III)V"⟩
def RJ4 : String := "java/lang/StringBuilder"
def TJ4 : u_T := fun k => match k with
  | 0 => ("java/lang/AbstractStringBuilder", "value", "[B", false)
  | 1 => ("java/lang/AbstractStringBuilder", "coder", "B", false)
  | 2 => ("java/lang/AbstractStringBuilder", "maybeLatin1", "Z", false)
  | _ => ("java/lang/AbstractStringBuilder", "count", "I", false)
def tyJ4 : Nat → FieldType := fun k => match k with
  | 0 => .array .byte
  | 1 => .byte
  | 2 => .boolean
  | _ => .int
abbrev wsJ40 : List Cond := u_ws RJ4 TJ4 4
theorem nmJ4 : ∀ a, a < 4 → ∀ b, b < 4 → a ≠ b → (TJ4 a).2.1 ≠ (TJ4 b).2.1 := by decide +kernel
theorem tyJ4_ok : ∀ k, k < 4 → parseFieldDescriptor (TJ4 k).2.2.1 = some (tyJ4 k) := by decide +kernel
abbrev cJ4_init_da8c8 : ByteArray := prog_24_method_1_code
def yJ4_init_da8c8 : MethodName := ⟨RJ4, "<init>", "()V"⟩
abbrev cJ4_init_a7421 : ByteArray := prog_24_method_3_code
def yJ4_init_a7421 : MethodName := ⟨RJ4, "<init>", "(Ljava/lang/String;)V"⟩
abbrev cJ4_append_15ec4 : ByteArray := prog_24_method_7_code
def yJ4_append_15ec4 : MethodName := ⟨RJ4, "append", "(Ljava/lang/String;)Ljava/lang/StringBuilder;"⟩
abbrev cJ4_append_cf468 : ByteArray := prog_24_method_14_code
def yJ4_append_cf468 : MethodName := ⟨RJ4, "append", "(C)Ljava/lang/StringBuilder;"⟩
abbrev cJ4_append_bf812 : ByteArray := prog_24_method_15_code
def yJ4_append_bf812 : MethodName := ⟨RJ4, "append", "(I)Ljava/lang/StringBuilder;"⟩
abbrev cJ4_toString_0e30d : ByteArray := prog_24_method_42_code
def yJ4_toString_0e30d : MethodName := ⟨RJ4, "toString", "()Ljava/lang/String;"⟩
abbrev cJ4_append_cf1ce : ByteArray := prog_24_method_80_code
def yJ4_append_cf1ce : MethodName := ⟨RJ4, "append", "(Ljava/lang/String;)Ljava/lang/AbstractStringBuilder;"⟩
abbrev cJ4_setLength_d00df : ByteArray := prog_24_method_89_code
def yJ4_setLength_d00df : MethodName := ⟨RJ4, "setLength", "(I)V"⟩
abbrev cJ4_length_8abf5 : ByteArray := prog_24_method_93_code
def yJ4_length_8abf5 : MethodName := ⟨RJ4, "length", "()I"⟩
def RJ1 : String := "java/lang/StringLatin1"
def TJ1 : u_T := fun k => match k with
  | _ => ("", "", "", false)
def tyJ1 : Nat → FieldType := fun k => match k with
  | _ => .int
abbrev wsJ10 : List Cond := u_ws RJ1 TJ1 0
theorem nmJ1 : ∀ a, a < 0 → ∀ b, b < 0 → a ≠ b → (TJ1 a).2.1 ≠ (TJ1 b).2.1 := by decide +kernel
theorem tyJ1_ok : ∀ k, k < 0 → parseFieldDescriptor (TJ1 k).2.2.1 = some (tyJ1 k) := by decide +kernel
abbrev cJ1_charAt_3b067 : ByteArray := prog_25_method_2_code
def yJ1_charAt_3b067 : MethodName := ⟨RJ1, "charAt", "([BI)C"⟩
abbrev cJ1_canEncode_fc78d : ByteArray := prog_25_method_3_code
def yJ1_canEncode_fc78d : MethodName := ⟨RJ1, "canEncode", "(C)Z"⟩
abbrev cJ1_fillNull_b72d1 : ByteArray := prog_25_method_48_code
def yJ1_fillNull_b72d1 : MethodName := ⟨RJ1, "fillNull", "([BII)V"⟩
abbrev cJ1_inflate_0e8fd : ByteArray := prog_25_method_50_code
def yJ1_inflate_0e8fd : MethodName := ⟨RJ1, "inflate", "([BI[BII)V"⟩
def RJ2 : String := "java/lang/StringUTF16"
def TJ2 : u_T := fun k => match k with
  | _ => ("", "", "", false)
def tyJ2 : Nat → FieldType := fun k => match k with
  | _ => .int
abbrev wsJ20 : List Cond := u_ws RJ2 TJ2 0
theorem nmJ2 : ∀ a, a < 0 → ∀ b, b < 0 → a ≠ b → (TJ2 a).2.1 ≠ (TJ2 b).2.1 := by decide +kernel
theorem tyJ2_ok : ∀ k, k < 0 → parseFieldDescriptor (TJ2 k).2.2.1 = some (tyJ2 k) := by decide +kernel
abbrev cJ2_newBytesFor_77867 : ByteArray := prog_26_method_2_code
def yJ2_newBytesFor_77867 : MethodName := ⟨RJ2, "newBytesFor", "(I)[B"⟩
abbrev cJ2_newBytesLength_0f7a4 : ByteArray := prog_26_method_3_code
def yJ2_newBytesLength_0f7a4 : MethodName := ⟨RJ2, "newBytesLength", "(I)I"⟩
abbrev cJ2_putChar_b72d1 : ByteArray := prog_26_method_4_code
def yJ2_putChar_b72d1 : MethodName := ⟨RJ2, "putChar", "([BII)V"⟩
abbrev cJ2_getChar_3b067 : ByteArray := prog_26_method_5_code
def yJ2_getChar_3b067 : MethodName := ⟨RJ2, "getChar", "([BI)C"⟩
abbrev cJ2_length_9d52b : ByteArray := prog_26_method_6_code
def yJ2_length_9d52b : MethodName := ⟨RJ2, "length", "([B)I"⟩
abbrev cJ2_coderFromArrayLen_85cad : ByteArray := prog_26_method_15_code
def yJ2_coderFromArrayLen_85cad : MethodName := ⟨RJ2, "coderFromArrayLen", "([BI)B"⟩
abbrev cJ2_compress_39247 : ByteArray := prog_26_method_17_code
def yJ2_compress_39247 : MethodName := ⟨RJ2, "compress", "([BII)[B"⟩
abbrev cJ2_compress_5af95 : ByteArray := prog_26_method_22_code
def yJ2_compress_5af95 : MethodName := ⟨RJ2, "compress", "([BI[BII)I"⟩
abbrev cJ2_fillNull_b72d1 : ByteArray := prog_26_method_70_code
def yJ2_fillNull_b72d1 : MethodName := ⟨RJ2, "fillNull", "([BII)V"⟩
abbrev cJ2_putCharSB_b72d1 : ByteArray := prog_26_method_71_code
def yJ2_putCharSB_b72d1 : MethodName := ⟨RJ2, "putCharSB", "([BII)V"⟩
abbrev cJ2_getChars_46870 : ByteArray := prog_26_method_77_code
def yJ2_getChars_46870 : MethodName := ⟨RJ2, "getChars", "(III[B)I"⟩
abbrev cJ2_putCharsAt_cd4e5 : ByteArray := prog_26_method_81_code
def yJ2_putCharsAt_cd4e5 : MethodName := ⟨RJ2, "putCharsAt", "([BICCCC)I"⟩
abbrev cJ2_charAt_3b067 : ByteArray := prog_26_method_83_code
def yJ2_charAt_3b067 : MethodName := ⟨RJ2, "charAt", "([BI)C"⟩
abbrev cJ2_inflate_0e8fd : ByteArray := prog_26_method_86_code
def yJ2_inflate_0e8fd : MethodName := ⟨RJ2, "inflate", "([BI[BII)V"⟩
abbrev cJ2_getChars_ba4f3 : ByteArray := prog_26_method_89_code
def yJ2_getChars_ba4f3 : MethodName := ⟨RJ2, "getChars", "(II[B)I"⟩
abbrev cJ2_checkIndex_2214a : ByteArray := prog_26_method_91_code
def yJ2_checkIndex_2214a : MethodName := ⟨RJ2, "checkIndex", "(I[B)V"⟩
abbrev cJ2_checkBoundsBeginEnd_d044e : ByteArray := prog_26_method_93_code
def yJ2_checkBoundsBeginEnd_d044e : MethodName := ⟨RJ2, "checkBoundsBeginEnd", "(II[B)V"⟩
abbrev cJ2_checkBoundsOffCount_d044e : ByteArray := prog_26_method_94_code
def yJ2_checkBoundsOffCount_d044e : MethodName := ⟨RJ2, "checkBoundsOffCount", "(II[B)V"⟩
def RJ10 : String := "java/lang/System"
def TJ10 : u_T := fun k => match k with
  | _ => ("", "", "", false)
def tyJ10 : Nat → FieldType := fun k => match k with
  | _ => .int
abbrev wsJ100 : List Cond := u_ws RJ10 TJ10 0
theorem nmJ10 : ∀ a, a < 0 → ∀ b, b < 0 → a ≠ b → (TJ10 a).2.1 ≠ (TJ10 b).2.1 := by decide +kernel
theorem tyJ10_ok : ∀ k, k < 0 → parseFieldDescriptor (TJ10 k).2.2.1 = some (tyJ10 k) := by decide +kernel
def RJxfd54e : String := "java/lang/constant/Constable"
def TJxfd54e : u_T := fun k => match k with
  | _ => ("", "", "", false)
def tyJxfd54e : Nat → FieldType := fun k => match k with
  | _ => .int
abbrev wsJxfd54e0 : List Cond := u_ws RJxfd54e TJxfd54e 0
theorem nmJxfd54e : ∀ a, a < 0 → ∀ b, b < 0 → a ≠ b → (TJxfd54e a).2.1 ≠ (TJxfd54e b).2.1 := by decide +kernel
theorem tyJxfd54e_ok : ∀ k, k < 0 → parseFieldDescriptor (TJxfd54e k).2.2.1 = some (tyJxfd54e k) := by decide +kernel
def RJx3cf43 : String := "java/lang/constant/ConstantDesc"
def TJx3cf43 : u_T := fun k => match k with
  | _ => ("", "", "", false)
def tyJx3cf43 : Nat → FieldType := fun k => match k with
  | _ => .int
abbrev wsJx3cf430 : List Cond := u_ws RJx3cf43 TJx3cf43 0
theorem nmJx3cf43 : ∀ a, a < 0 → ∀ b, b < 0 → a ≠ b → (TJx3cf43 a).2.1 ≠ (TJx3cf43 b).2.1 := by decide +kernel
theorem tyJx3cf43_ok : ∀ k, k < 0 → parseFieldDescriptor (TJx3cf43 k).2.2.1 = some (tyJx3cf43 k) := by decide +kernel
def RJ7 : String := "java/util/Arrays"
def TJ7 : u_T := fun k => match k with
  | _ => ("", "", "", false)
def tyJ7 : Nat → FieldType := fun k => match k with
  | _ => .int
abbrev wsJ70 : List Cond := u_ws RJ7 TJ7 0
theorem nmJ7 : ∀ a, a < 0 → ∀ b, b < 0 → a ≠ b → (TJ7 a).2.1 ≠ (TJ7 b).2.1 := by decide +kernel
theorem tyJ7_ok : ∀ k, k < 0 → parseFieldDescriptor (TJ7 k).2.2.1 = some (tyJ7 k) := by decide +kernel
abbrev cJ7_rangeCheck_23922 : ByteArray := prog_29_method_30_code
def yJ7_rangeCheck_23922 : MethodName := ⟨RJ7, "rangeCheck", "(III)V"⟩
abbrev cJ7_fill_53178 : ByteArray := prog_29_method_103_code
def yJ7_fill_53178 : MethodName := ⟨RJ7, "fill", "([II)V"⟩
abbrev cJ7_fill_eb02e : ByteArray := prog_29_method_110_code
def yJ7_fill_eb02e : MethodName := ⟨RJ7, "fill", "([BIIB)V"⟩
abbrev cJ7_copyOf_9075b : ByteArray := prog_29_method_121_code
def yJ7_copyOf_9075b : MethodName := ⟨RJ7, "copyOf", "([BI)[B"⟩
abbrev cJ7_checkLength_df160 : ByteArray := prog_29_method_131_code
def yJ7_checkLength_df160 : MethodName := ⟨RJ7, "checkLength", "(II)V"⟩
abbrev cJ7_copyOfRange_39247 : ByteArray := prog_29_method_132_code
def yJ7_copyOfRange_39247 : MethodName := ⟨RJ7, "copyOfRange", "([BII)[B"⟩
abbrev cJ7_copyOfRangeByte_39247 : ByteArray := prog_29_method_133_code
def yJ7_copyOfRangeByte_39247 : MethodName := ⟨RJ7, "copyOfRangeByte", "([BII)[B"⟩
def RJ8 : String := "jdk/internal/util/ArraysSupport"
def TJ8 : u_T := fun k => match k with
  | _ => ("", "", "", false)
def tyJ8 : Nat → FieldType := fun k => match k with
  | _ => .int
abbrev wsJ80 : List Cond := u_ws RJ8 TJ8 0
theorem nmJ8 : ∀ a, a < 0 → ∀ b, b < 0 → a ≠ b → (TJ8 a).2.1 ≠ (TJ8 b).2.1 := by decide +kernel
theorem tyJ8_ok : ∀ k, k < 0 → parseFieldDescriptor (TJ8 k).2.2.1 = some (tyJ8 k) := by decide +kernel
abbrev cJ8_newLength_cabcc : ByteArray := prog_30_method_27_code
def yJ8_newLength_cabcc : MethodName := ⟨RJ8, "newLength", "(III)I"⟩
abbrev cJ8_hugeLength_7cf53 : ByteArray := prog_30_method_28_code
def yJ8_hugeLength_7cf53 : MethodName := ⟨RJ8, "hugeLength", "(II)I"⟩
def RJ3 : String := "jdk/internal/util/Preconditions"
def TJ3 : u_T := fun k => match k with
  | _ => ("", "", "", false)
def tyJ3 : Nat → FieldType := fun k => match k with
  | _ => .int
abbrev wsJ30 : List Cond := u_ws RJ3 TJ3 0
theorem nmJ3 : ∀ a, a < 0 → ∀ b, b < 0 → a ≠ b → (TJ3 a).2.1 ≠ (TJ3 b).2.1 := by decide +kernel
theorem tyJ3_ok : ∀ k, k < 0 → parseFieldDescriptor (TJ3 k).2.2.1 = some (tyJ3 k) := by decide +kernel
abbrev cJ3_checkIndex_8e157 : ByteArray := prog_31_method_11_code
def yJ3_checkIndex_8e157 : MethodName := ⟨RJ3, "checkIndex", "(IILjava/util/function/BiFunction;)I"⟩
abbrev cJ3_checkFromToIndex_8c36e : ByteArray := prog_31_method_12_code
def yJ3_checkFromToIndex_8c36e : MethodName := ⟨RJ3, "checkFromToIndex", "(IIILjava/util/function/BiFunction;)I"⟩
abbrev cJ3_checkFromIndexSize_8c36e : ByteArray := prog_31_method_13_code
def yJ3_checkFromIndexSize_8c36e : MethodName := ⟨RJ3, "checkFromIndexSize", "(IIILjava/util/function/BiFunction;)I"⟩
def RL : String := "ReviewTableLaw"
abbrev cL_draw : ByteArray := method_2_code
def yL_draw : MethodName := ⟨RL, "draw", "([III)I"⟩
abbrev cL_four : ByteArray := method_3_code
def yL_four : MethodName := ⟨RL, "four", "(Ljava/lang/String;I)I"⟩
abbrev cL_feed : ByteArray := method_4_code
def yL_feed : MethodName := ⟨RL, "feed", "(LReviewTable;Ljava/lang/String;)V"⟩
abbrev cL_load : ByteArray := method_5_code
def yL_load : MethodName := ⟨RL, "load", "(LReviewTable;[I)Z"⟩
abbrev cL_taken : ByteArray := method_6_code
def yL_taken : MethodName := ⟨RL, "taken", "(LReviewTable;I)I"⟩
abbrev cL_took : ByteArray := method_7_code
def yL_took : MethodName := ⟨RL, "took", "(LReviewTable;II)I"⟩
abbrev cL_delivered : ByteArray := method_8_code
def yL_delivered : MethodName := ⟨RL, "delivered", "(LReviewTable;III)I"⟩
abbrev cL_audited : ByteArray := method_9_code
def yL_audited : MethodName := ⟨RL, "audited", "(LReviewTable;II)I"⟩
abbrev cL_putAside : ByteArray := method_10_code
def yL_putAside : MethodName := ⟨RL, "putAside", "(LReviewTable;I)I"⟩
abbrev cL_pardoned : ByteArray := method_11_code
def yL_pardoned : MethodName := ⟨RL, "pardoned", "(LReviewTable;I)I"⟩
abbrev cL_inWork : ByteArray := method_13_code
def yL_inWork : MethodName := ⟨RL, "inWork", "(LReviewTable;II)I"⟩
abbrev cL_act : ByteArray := method_14_code
def yL_act : MethodName := ⟨RL, "act", "(LReviewTable;[II)I"⟩
abbrev cL_capped : ByteArray := method_15_code
def yL_capped : MethodName := ⟨RL, "capped", "(I)I"⟩
abbrev cL_trusts : ByteArray := method_16_code
def yL_trusts : MethodName := ⟨RL, "trusts", "(LReviewTable;)[I"⟩
abbrev cL_are : ByteArray := method_17_code
def yL_are : MethodName := ⟨RL, "are", "(LReviewTable;[I)Z"⟩
abbrev cL_delivers : ByteArray := method_18_code
def yL_delivers : MethodName := ⟨RL, "delivers", "(LReviewTable;III)Z"⟩
abbrev cL_audits : ByteArray := method_19_code
def yL_audits : MethodName := ⟨RL, "audits", "(LReviewTable;II)Z"⟩
abbrev cL_passes : ByteArray := method_20_code
def yL_passes : MethodName := ⟨RL, "passes", "(LReviewTable;I)Z"⟩
abbrev cL_holds : ByteArray := method_21_code
def yL_holds : MethodName := ⟨RL, "holds", "(LReviewTable;)Z"⟩
abbrev cL_law : ByteArray := code
def yL_law : MethodName := ⟨RL, "law", "([I)Z"⟩
abbrev vwCl : List vw_C := [(RJ0, TJ0, 4), (RJ4, TJ4, 4), (RX0, TX0, 3), (RX0, TX0, 3), (RX0, TX0, 3), (RX1, TX1, 3), (RX3, TX3, 9), (RX4, TX4, 10), (RX5, TX5, 10), (RX6, TX6, 7), (RX7, TX7, 10), (RX8, TX8, 10)]
