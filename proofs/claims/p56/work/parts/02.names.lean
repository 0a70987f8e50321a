def RX0 : String := "StoneChurn$Batch"
def TX0 : u_T := fun k => match k with
  | 0 => ("StoneChurn$Batch", "cycle", "LStoneChurn$Cycle;", true)
  | 1 => ("StoneChurn$Batch", "churn", "LStoneChurn$Churn;", true)
  | 2 => ("StoneChurn$Batch", "table", "LStoneChurn$Table;", true)
  | _ => ("StoneChurn$Batch", "tally", "LStoneChurn$Tally;", true)
def tyX0 : Nat → FieldType := fun k => match k with
  | 0 => .object "StoneChurn$Cycle"
  | 1 => .object "StoneChurn$Churn"
  | 2 => .object "StoneChurn$Table"
  | _ => .object "StoneChurn$Tally"
abbrev wsX00 : List Cond := u_ws RX0 TX0 4
theorem nmX0 : ∀ a, a < 4 → ∀ b, b < 4 → a ≠ b → (TX0 a).2.1 ≠ (TX0 b).2.1 := by decide +kernel
theorem tyX0_ok : ∀ k, k < 4 → parseFieldDescriptor (TX0 k).2.2.1 = some (tyX0 k) := by decide +kernel
abbrev cX0_init : ByteArray := prog_2_method_1_code
def yX0_init : MethodName := ⟨RX0, "<init>", "()V"⟩
abbrev cX0_copyFrom : ByteArray := prog_2_method_2_code
def yX0_copyFrom : MethodName := ⟨RX0, "copyFrom", "(LStoneChurn$Batch;)V"⟩
abbrev cX0_detailOf : ByteArray := prog_2_method_3_code
def yX0_detailOf : MethodName := ⟨RX0, "detailOf", "(II)I"⟩
abbrev cX0_judgePhase : ByteArray := prog_2_method_4_code
def yX0_judgePhase : MethodName := ⟨RX0, "judgePhase", "(CII)I"⟩
abbrev cX0_appendPhase : ByteArray := prog_2_method_5_code
def yX0_appendPhase : MethodName := ⟨RX0, "appendPhase", "(CII)I"⟩
abbrev cX0_judgeCut : ByteArray := prog_2_method_6_code
def yX0_judgeCut : MethodName := ⟨RX0, "judgeCut", "(I)I"⟩
abbrev cX0_cutPhase : ByteArray := prog_2_method_7_code
def yX0_cutPhase : MethodName := ⟨RX0, "cutPhase", "(I)I"⟩
abbrev cX0_judgeStart : ByteArray := prog_2_method_8_code
def yX0_judgeStart : MethodName := ⟨RX0, "judgeStart", "()I"⟩
abbrev cX0_startCycle : ByteArray := prog_2_method_9_code
def yX0_startCycle : MethodName := ⟨RX0, "startCycle", "()I"⟩
abbrev cX0_judgeStop : ByteArray := prog_2_method_10_code
def yX0_judgeStop : MethodName := ⟨RX0, "judgeStop", "()I"⟩
abbrev cX0_stopCycle : ByteArray := prog_2_method_11_code
def yX0_stopCycle : MethodName := ⟨RX0, "stopCycle", "()I"⟩
abbrev cX0_judgeRun : ByteArray := prog_2_method_12_code
def yX0_judgeRun : MethodName := ⟨RX0, "judgeRun", "(I)I"⟩
abbrev cX0_passMinutes : ByteArray := prog_2_method_13_code
def yX0_passMinutes : MethodName := ⟨RX0, "passMinutes", "(I)I"⟩
abbrev cX0_passMinute : ByteArray := prog_2_method_14_code
def yX0_passMinute : MethodName := ⟨RX0, "passMinute", "()V"⟩
abbrev cX0_judgeLoad : ByteArray := prog_2_method_15_code
def yX0_judgeLoad : MethodName := ⟨RX0, "judgeLoad", "(I)I"⟩
abbrev cX0_loadRock : ByteArray := prog_2_method_16_code
def yX0_loadRock : MethodName := ⟨RX0, "loadRock", "(I)I"⟩
abbrev cX0_judgePress : ByteArray := prog_2_method_17_code
def yX0_judgePress : MethodName := ⟨RX0, "judgePress", "(I)I"⟩
abbrev cX0_pressPat : ByteArray := prog_2_method_18_code
def yX0_pressPat : MethodName := ⟨RX0, "pressPat", "(I)I"⟩
abbrev cX0_judgeGrading : ByteArray := prog_2_method_19_code
def yX0_judgeGrading : MethodName := ⟨RX0, "judgeGrading", "(I)I"⟩
abbrev cX0_takeGrade : ByteArray := prog_2_method_20_code
def yX0_takeGrade : MethodName := ⟨RX0, "takeGrade", "(I)C"⟩
abbrev cX0_judgeCrush : ByteArray := prog_2_method_21_code
def yX0_judgeCrush : MethodName := ⟨RX0, "judgeCrush", "(I)I"⟩
abbrev cX0_crushPat : ByteArray := prog_2_method_22_code
def yX0_crushPat : MethodName := ⟨RX0, "crushPat", "(I)I"⟩
def RX1 : String := "StoneChurn$Churn"
def TX1 : u_T := fun k => match k with
  | 0 => ("StoneChurn$Churn", "mass", "I", false)
  | 1 => ("StoneChurn$Churn", "temperature", "I", false)
  | 2 => ("StoneChurn$Churn", "smoothness", "I", false)
  | _ => ("StoneChurn$Churn", "stress", "I", false)
def tyX1 : Nat → FieldType := fun k => match k with
  | 0 => .int
  | 1 => .int
  | 2 => .int
  | _ => .int
abbrev wsX10 : List Cond := u_ws RX1 TX1 4
theorem nmX1 : ∀ a, a < 4 → ∀ b, b < 4 → a ≠ b → (TX1 a).2.1 ≠ (TX1 b).2.1 := by decide +kernel
theorem tyX1_ok : ∀ k, k < 4 → parseFieldDescriptor (TX1 k).2.2.1 = some (tyX1 k) := by decide +kernel
abbrev cX1_init : ByteArray := prog_3_method_1_code
def yX1_init : MethodName := ⟨RX1, "<init>", "()V"⟩
abbrev cX1_copyFrom : ByteArray := prog_3_method_2_code
def yX1_copyFrom : MethodName := ⟨RX1, "copyFrom", "(LStoneChurn$Churn;)V"⟩
abbrev cX1_add : ByteArray := prog_3_method_3_code
def yX1_add : MethodName := ⟨RX1, "add", "(I)V"⟩
abbrev cX1_cracksOfPat : ByteArray := prog_3_method_4_code
def yX1_cracksOfPat : MethodName := ⟨RX1, "cracksOfPat", "()I"⟩
abbrev cX1_change : ByteArray := prog_3_method_5_code
def yX1_change : MethodName := ⟨RX1, "change", "(CI)V"⟩
abbrev cX1_turn : ByteArray := prog_3_method_6_code
def yX1_turn : MethodName := ⟨RX1, "turn", "(I)V"⟩
abbrev cX1_rest : ByteArray := prog_3_method_7_code
def yX1_rest : MethodName := ⟨RX1, "rest", "(I)V"⟩
def RX2 : String := "StoneChurn$Cycle"
def TX2 : u_T := fun k => match k with
  | 0 => ("StoneChurn$Cycle", "kinds", "[C", true)
  | 1 => ("StoneChurn$Cycle", "minutes", "[I", true)
  | 2 => ("StoneChurn$Cycle", "levels", "[I", true)
  | 3 => ("StoneChurn$Cycle", "count", "I", false)
  | 4 => ("StoneChurn$Cycle", "present", "I", false)
  | 5 => ("StoneChurn$Cycle", "minutesDone", "I", false)
  | _ => ("StoneChurn$Cycle", "finished", "I", false)
def tyX2 : Nat → FieldType := fun k => match k with
  | 0 => .array .char
  | 1 => .array .int
  | 2 => .array .int
  | 3 => .int
  | 4 => .int
  | 5 => .int
  | _ => .int
abbrev wsX20 : List Cond := u_ws RX2 TX2 7
theorem nmX2 : ∀ a, a < 7 → ∀ b, b < 7 → a ≠ b → (TX2 a).2.1 ≠ (TX2 b).2.1 := by decide +kernel
theorem tyX2_ok : ∀ k, k < 7 → parseFieldDescriptor (TX2 k).2.2.1 = some (tyX2 k) := by decide +kernel
abbrev cX2_init : ByteArray := prog_4_method_1_code
def yX2_init : MethodName := ⟨RX2, "<init>", "()V"⟩
abbrev cX2_isKind : ByteArray := prog_4_method_2_code
def yX2_isKind : MethodName := ⟨RX2, "isKind", "(C)Z"⟩
abbrev cX2_copyFrom : ByteArray := prog_4_method_3_code
def yX2_copyFrom : MethodName := ⟨RX2, "copyFrom", "(LStoneChurn$Cycle;)V"⟩
abbrev cX2_has : ByteArray := prog_4_method_4_code
def yX2_has : MethodName := ⟨RX2, "has", "(I)Z"⟩
abbrev cX2_isUnderWay : ByteArray := prog_4_method_5_code
def yX2_isUnderWay : MethodName := ⟨RX2, "isUnderWay", "()Z"⟩
abbrev cX2_append : ByteArray := prog_4_method_6_code
def yX2_append : MethodName := ⟨RX2, "append", "(CII)V"⟩
abbrev cX2_remove : ByteArray := prog_4_method_7_code
def yX2_remove : MethodName := ⟨RX2, "remove", "(I)V"⟩
abbrev cX2_begin : ByteArray := prog_4_method_8_code
def yX2_begin : MethodName := ⟨RX2, "begin", "()V"⟩
abbrev cX2_end : ByteArray := prog_4_method_9_code
def yX2_end : MethodName := ⟨RX2, "end", "()V"⟩
abbrev cX2_minutesToCome : ByteArray := prog_4_method_10_code
def yX2_minutesToCome : MethodName := ⟨RX2, "minutesToCome", "()I"⟩
abbrev cX2_advance : ByteArray := prog_4_method_11_code
def yX2_advance : MethodName := ⟨RX2, "advance", "()V"⟩
def RX3 : String := "StoneChurn$History"
def TX3 : u_T := fun k => match k with
  | 0 => ("StoneChurn$History", "past", "[LStoneChurn$Batch;", true)
  | 1 => ("StoneChurn$History", "next", "I", false)
  | _ => ("StoneChurn$History", "count", "I", false)
def tyX3 : Nat → FieldType := fun k => match k with
  | 0 => .array (.object "StoneChurn$Batch")
  | 1 => .int
  | _ => .int
abbrev wsX30 : List Cond := u_ws RX3 TX3 3
theorem nmX3 : ∀ a, a < 3 → ∀ b, b < 3 → a ≠ b → (TX3 a).2.1 ≠ (TX3 b).2.1 := by decide +kernel
theorem tyX3_ok : ∀ k, k < 3 → parseFieldDescriptor (TX3 k).2.2.1 = some (tyX3 k) := by decide +kernel
abbrev cX3_init : ByteArray := prog_5_method_1_code
def yX3_init : MethodName := ⟨RX3, "<init>", "()V"⟩
abbrev cX3_push : ByteArray := prog_5_method_2_code
def yX3_push : MethodName := ⟨RX3, "push", "(LStoneChurn$Batch;)V"⟩
abbrev cX3_pop : ByteArray := prog_5_method_3_code
def yX3_pop : MethodName := ⟨RX3, "pop", "(LStoneChurn$Batch;)V"⟩
abbrev cX3_forgetAll : ByteArray := prog_5_method_4_code
def yX3_forgetAll : MethodName := ⟨RX3, "forgetAll", "()V"⟩
def RX4 : String := "StoneChurn$Table"
def TX4 : u_T := fun k => match k with
  | 0 => ("StoneChurn$Table", "masses", "[I", true)
  | 1 => ("StoneChurn$Table", "temperatures", "[I", true)
  | 2 => ("StoneChurn$Table", "smoothnesses", "[I", true)
  | 3 => ("StoneChurn$Table", "crackCounts", "[I", true)
  | _ => ("StoneChurn$Table", "count", "I", false)
def tyX4 : Nat → FieldType := fun k => match k with
  | 0 => .array .int
  | 1 => .array .int
  | 2 => .array .int
  | 3 => .array .int
  | _ => .int
abbrev wsX40 : List Cond := u_ws RX4 TX4 5
theorem nmX4 : ∀ a, a < 5 → ∀ b, b < 5 → a ≠ b → (TX4 a).2.1 ≠ (TX4 b).2.1 := by decide +kernel
theorem tyX4_ok : ∀ k, k < 5 → parseFieldDescriptor (TX4 k).2.2.1 = some (tyX4 k) := by decide +kernel
abbrev cX4_init : ByteArray := prog_6_method_1_code
def yX4_init : MethodName := ⟨RX4, "<init>", "()V"⟩
abbrev cX4_copyFrom : ByteArray := prog_6_method_2_code
def yX4_copyFrom : MethodName := ⟨RX4, "copyFrom", "(LStoneChurn$Table;)V"⟩
abbrev cX4_has : ByteArray := prog_6_method_3_code
def yX4_has : MethodName := ⟨RX4, "has", "(I)Z"⟩
abbrev cX4_massOf : ByteArray := prog_6_method_4_code
def yX4_massOf : MethodName := ⟨RX4, "massOf", "(I)I"⟩
abbrev cX4_temperatureOf : ByteArray := prog_6_method_5_code
def yX4_temperatureOf : MethodName := ⟨RX4, "temperatureOf", "(I)I"⟩
abbrev cX4_firmnessOf : ByteArray := prog_6_method_6_code
def yX4_firmnessOf : MethodName := ⟨RX4, "firmnessOf", "(I)I"⟩
abbrev cX4_hasCool : ByteArray := prog_6_method_7_code
def yX4_hasCool : MethodName := ⟨RX4, "hasCool", "(I)Z"⟩
abbrev cX4_gradeOf : ByteArray := prog_6_method_8_code
def yX4_gradeOf : MethodName := ⟨RX4, "gradeOf", "(I)I"⟩
abbrev cX4_append : ByteArray := prog_6_method_9_code
def yX4_append : MethodName := ⟨RX4, "append", "(IIII)V"⟩
abbrev cX4_remove : ByteArray := prog_6_method_10_code
def yX4_remove : MethodName := ⟨RX4, "remove", "(I)V"⟩
abbrev cX4_coolDown : ByteArray := prog_6_method_11_code
def yX4_coolDown : MethodName := ⟨RX4, "coolDown", "()V"⟩
abbrev cX4_firmnessOfAll : ByteArray := prog_6_method_12_code
def yX4_firmnessOfAll : MethodName := ⟨RX4, "firmnessOfAll", "()I"⟩
abbrev cX4_coolOnes : ByteArray := prog_6_method_13_code
def yX4_coolOnes : MethodName := ⟨RX4, "coolOnes", "()I"⟩
abbrev cX4_firstCoolFrom : ByteArray := prog_6_method_14_code
def yX4_firstCoolFrom : MethodName := ⟨RX4, "firstCoolFrom", "(I)I"⟩
abbrev cX4_patAtRank : ByteArray := prog_6_method_15_code
def yX4_patAtRank : MethodName := ⟨RX4, "patAtRank", "(I)I"⟩
abbrev cX4_rankOf : ByteArray := prog_6_method_16_code
def yX4_rankOf : MethodName := ⟨RX4, "rankOf", "(I)I"⟩
abbrev cX4_goesBefore : ByteArray := prog_6_method_17_code
def yX4_goesBefore : MethodName := ⟨RX4, "goesBefore", "(II)Z"⟩
def RX5 : String := "StoneChurn$Tally"
def TX5 : u_T := fun k => match k with
  | 0 => ("StoneChurn$Tally", "gradeCounts", "[I", true)
  | 1 => ("StoneChurn$Tally", "minutes", "I", false)
  | 2 => ("StoneChurn$Tally", "loaded", "I", false)
  | _ => ("StoneChurn$Tally", "graded", "I", false)
def tyX5 : Nat → FieldType := fun k => match k with
  | 0 => .array .int
  | 1 => .int
  | 2 => .int
  | _ => .int
abbrev wsX50 : List Cond := u_ws RX5 TX5 4
theorem nmX5 : ∀ a, a < 4 → ∀ b, b < 4 → a ≠ b → (TX5 a).2.1 ≠ (TX5 b).2.1 := by decide +kernel
theorem tyX5_ok : ∀ k, k < 4 → parseFieldDescriptor (TX5 k).2.2.1 = some (tyX5 k) := by decide +kernel
abbrev cX5_init : ByteArray := prog_7_method_1_code
def yX5_init : MethodName := ⟨RX5, "<init>", "()V"⟩
abbrev cX5_copyFrom : ByteArray := prog_7_method_2_code
def yX5_copyFrom : MethodName := ⟨RX5, "copyFrom", "(LStoneChurn$Tally;)V"⟩
abbrev cX5_count : ByteArray := prog_7_method_3_code
def yX5_count : MethodName := ⟨RX5, "count", "(II)V"⟩
def RX6 : String := "StoneChurn$Text"
def TX6 : u_T := fun k => match k with
  | 0 => ("StoneChurn$Text", "signs", "[C", true)
  | 1 => ("StoneChurn$Text", "length", "I", false)
  | 2 => ("StoneChurn$Text", "position", "I", false)
  | 3 => ("StoneChurn$Text", "words", "[I", true)
  | 4 => ("StoneChurn$Text", "kinds", "[C", true)
  | 5 => ("StoneChurn$Text", "numbers", "[I", true)
  | 6 => ("StoneChurn$Text", "levels", "[I", true)
  | _ => ("StoneChurn$Text", "commandCount", "I", false)
def tyX6 : Nat → FieldType := fun k => match k with
  | 0 => .array .char
  | 1 => .int
  | 2 => .int
  | 3 => .array .int
  | 4 => .array .char
  | 5 => .array .int
  | 6 => .array .int
  | _ => .int
abbrev wsX60 : List Cond := u_ws RX6 TX6 8
theorem nmX6 : ∀ a, a < 8 → ∀ b, b < 8 → a ≠ b → (TX6 a).2.1 ≠ (TX6 b).2.1 := by decide +kernel
theorem tyX6_ok : ∀ k, k < 8 → parseFieldDescriptor (TX6 k).2.2.1 = some (tyX6 k) := by decide +kernel
abbrev cX6_init : ByteArray := prog_8_method_1_code
def yX6_init : MethodName := ⟨RX6, "<init>", "()V"⟩
abbrev cX6_spelling : ByteArray := prog_8_method_2_code
def yX6_spelling : MethodName := ⟨RX6, "spelling", "(I)Ljava/lang/String;"⟩
abbrev cX6_isFull : ByteArray := prog_8_method_3_code
def yX6_isFull : MethodName := ⟨RX6, "isFull", "()Z"⟩
abbrev cX6_append : ByteArray := prog_8_method_4_code
def yX6_append : MethodName := ⟨RX6, "append", "(C)V"⟩
abbrev cX6_clear : ByteArray := prog_8_method_5_code
def yX6_clear : MethodName := ⟨RX6, "clear", "()V"⟩
abbrev cX6_readCommands : ByteArray := prog_8_method_6_code
def yX6_readCommands : MethodName := ⟨RX6, "readCommands", "()Z"⟩
abbrev cX6_readCommand : ByteArray := prog_8_method_7_code
def yX6_readCommand : MethodName := ⟨RX6, "readCommand", "(I)Z"⟩
abbrev cX6_readPhase : ByteArray := prog_8_method_8_code
def yX6_readPhase : MethodName := ⟨RX6, "readPhase", "(I)Z"⟩
abbrev cX6_readWord : ByteArray := prog_8_method_9_code
def yX6_readWord : MethodName := ⟨RX6, "readWord", "()I"⟩
abbrev cX6_signsAlike : ByteArray := prog_8_method_10_code
def yX6_signsAlike : MethodName := ⟨RX6, "signsAlike", "(Ljava/lang/String;)I"⟩
abbrev cX6_readSign : ByteArray := prog_8_method_11_code
def yX6_readSign : MethodName := ⟨RX6, "readSign", "(C)Z"⟩
abbrev cX6_readNumber : ByteArray := prog_8_method_12_code
def yX6_readNumber : MethodName := ⟨RX6, "readNumber", "(I)I"⟩
abbrev cX6_isDigit : ByteArray := prog_8_method_13_code
def yX6_isDigit : MethodName := ⟨RX6, "isDigit", "(C)Z"⟩
def RX7 : String := "StoneChurn"
def TX7 : u_T := fun k => match k with
  | 0 => ("StoneChurn", "batch", "LStoneChurn$Batch;", true)
  | 1 => ("StoneChurn", "trial", "LStoneChurn$Batch;", true)
  | 2 => ("StoneChurn", "snapshot", "LStoneChurn$Batch;", true)
  | 3 => ("StoneChurn", "snapshotSaved", "Z", false)
  | 4 => ("StoneChurn", "history", "LStoneChurn$History;", true)
  | 5 => ("StoneChurn", "text", "LStoneChurn$Text;", true)
  | 6 => ("StoneChurn", "keptFault", "I", false)
  | 7 => ("StoneChurn", "line", "Ljava/lang/StringBuilder;", true)
  | 8 => ("StoneChurn", "deniedNumber", "I", false)
  | 9 => ("StoneChurn", "deniedDetail", "I", false)
  | _ => ("StoneChurn", "deniedCause", "I", false)
def tyX7 : Nat → FieldType := fun k => match k with
  | 0 => .object "StoneChurn$Batch"
  | 1 => .object "StoneChurn$Batch"
  | 2 => .object "StoneChurn$Batch"
  | 3 => .boolean
  | 4 => .object "StoneChurn$History"
  | 5 => .object "StoneChurn$Text"
  | 6 => .int
  | 7 => .object "java/lang/StringBuilder"
  | 8 => .int
  | 9 => .int
  | _ => .int
abbrev wsX70 : List Cond := u_ws RX7 TX7 11
theorem nmX7 : ∀ a, a < 11 → ∀ b, b < 11 → a ≠ b → (TX7 a).2.1 ≠ (TX7 b).2.1 := by decide +kernel
theorem tyX7_ok : ∀ k, k < 11 → parseFieldDescriptor (TX7 k).2.2.1 = some (tyX7 k) := by decide +kernel
abbrev cX7_init : ByteArray := prog_1_method_1_code
def yX7_init : MethodName := ⟨RX7, "<init>", "()V"⟩
abbrev cX7_addPhase : ByteArray := prog_1_method_2_code
def yX7_addPhase : MethodName := ⟨RX7, "addPhase", "(CII)I"⟩
abbrev cX7_removePhase : ByteArray := prog_1_method_3_code
def yX7_removePhase : MethodName := ⟨RX7, "removePhase", "(I)I"⟩
abbrev cX7_start : ByteArray := prog_1_method_4_code
def yX7_start : MethodName := ⟨RX7, "start", "()I"⟩
abbrev cX7_stop : ByteArray := prog_1_method_5_code
def yX7_stop : MethodName := ⟨RX7, "stop", "()I"⟩
abbrev cX7_run : ByteArray := prog_1_method_6_code
def yX7_run : MethodName := ⟨RX7, "run", "(I)I"⟩
abbrev cX7_phaseCount : ByteArray := prog_1_method_7_code
def yX7_phaseCount : MethodName := ⟨RX7, "phaseCount", "()I"⟩
abbrev cX7_phaseKind : ByteArray := prog_1_method_8_code
def yX7_phaseKind : MethodName := ⟨RX7, "phaseKind", "(I)C"⟩
abbrev cX7_phaseMinutes : ByteArray := prog_1_method_9_code
def yX7_phaseMinutes : MethodName := ⟨RX7, "phaseMinutes", "(I)I"⟩
abbrev cX7_isRunning : ByteArray := prog_1_method_10_code
def yX7_isRunning : MethodName := ⟨RX7, "isRunning", "()Z"⟩
abbrev cX7_presentPhase : ByteArray := prog_1_method_11_code
def yX7_presentPhase : MethodName := ⟨RX7, "presentPhase", "()I"⟩
abbrev cX7_minutesLeft : ByteArray := prog_1_method_12_code
def yX7_minutesLeft : MethodName := ⟨RX7, "minutesLeft", "()I"⟩
abbrev cX7_minutesLeftByPhases : ByteArray := prog_1_method_13_code
def yX7_minutesLeftByPhases : MethodName := ⟨RX7, "minutesLeftByPhases", "()I"⟩
abbrev cX7_finishedCycles : ByteArray := prog_1_method_14_code
def yX7_finishedCycles : MethodName := ⟨RX7, "finishedCycles", "()I"⟩
abbrev cX7_load : ByteArray := prog_1_method_15_code
def yX7_load : MethodName := ⟨RX7, "load", "(I)I"⟩
abbrev cX7_mass : ByteArray := prog_1_method_16_code
def yX7_mass : MethodName := ⟨RX7, "mass", "()I"⟩
abbrev cX7_temperature : ByteArray := prog_1_method_17_code
def yX7_temperature : MethodName := ⟨RX7, "temperature", "()I"⟩
abbrev cX7_smoothness : ByteArray := prog_1_method_18_code
def yX7_smoothness : MethodName := ⟨RX7, "smoothness", "()I"⟩
abbrev cX7_stress : ByteArray := prog_1_method_19_code
def yX7_stress : MethodName := ⟨RX7, "stress", "()I"⟩
abbrev cX7_temperatureAfter : ByteArray := prog_1_method_20_code
def yX7_temperatureAfter : MethodName := ⟨RX7, "temperatureAfter", "(I)I"⟩
abbrev cX7_smoothnessAfter : ByteArray := prog_1_method_21_code
def yX7_smoothnessAfter : MethodName := ⟨RX7, "smoothnessAfter", "(I)I"⟩
abbrev cX7_peakTemperature : ByteArray := prog_1_method_22_code
def yX7_peakTemperature : MethodName := ⟨RX7, "peakTemperature", "()I"⟩
abbrev cX7_press : ByteArray := prog_1_method_23_code
def yX7_press : MethodName := ⟨RX7, "press", "(I)I"⟩
abbrev cX7_gradePat : ByteArray := prog_1_method_24_code
def yX7_gradePat : MethodName := ⟨RX7, "gradePat", "(I)C"⟩
abbrev cX7_crush : ByteArray := prog_1_method_25_code
def yX7_crush : MethodName := ⟨RX7, "crush", "(I)I"⟩
abbrev cX7_patCount : ByteArray := prog_1_method_26_code
def yX7_patCount : MethodName := ⟨RX7, "patCount", "()I"⟩
abbrev cX7_patMass : ByteArray := prog_1_method_27_code
def yX7_patMass : MethodName := ⟨RX7, "patMass", "(I)I"⟩
abbrev cX7_patTemperature : ByteArray := prog_1_method_28_code
def yX7_patTemperature : MethodName := ⟨RX7, "patTemperature", "(I)I"⟩
abbrev cX7_cracks : ByteArray := prog_1_method_29_code
def yX7_cracks : MethodName := ⟨RX7, "cracks", "(I)I"⟩
abbrev cX7_firmness : ByteArray := prog_1_method_30_code
def yX7_firmness : MethodName := ⟨RX7, "firmness", "(I)I"⟩
abbrev cX7_isCool : ByteArray := prog_1_method_31_code
def yX7_isCool : MethodName := ⟨RX7, "isCool", "(I)Z"⟩
abbrev cX7_minutesUntilCool : ByteArray := prog_1_method_32_code
def yX7_minutesUntilCool : MethodName := ⟨RX7, "minutesUntilCool", "(I)I"⟩
abbrev cX7_minutesUntilCoolByDivision : ByteArray := prog_1_method_33_code
def yX7_minutesUntilCoolByDivision : MethodName := ⟨RX7, "minutesUntilCoolByDivision", "(I)I"⟩
abbrev cX7_patByFirmness : ByteArray := prog_1_method_34_code
def yX7_patByFirmness : MethodName := ⟨RX7, "patByFirmness", "(I)I"⟩
abbrev cX7_nextCool : ByteArray := prog_1_method_35_code
def yX7_nextCool : MethodName := ⟨RX7, "nextCool", "(I)I"⟩
abbrev cX7_minute : ByteArray := prog_1_method_36_code
def yX7_minute : MethodName := ⟨RX7, "minute", "()I"⟩
abbrev cX7_gradedCount : ByteArray := prog_1_method_37_code
def yX7_gradedCount : MethodName := ⟨RX7, "gradedCount", "(C)I"⟩
abbrev cX7_loadedMass : ByteArray := prog_1_method_38_code
def yX7_loadedMass : MethodName := ⟨RX7, "loadedMass", "()I"⟩
abbrev cX7_gradedMass : ByteArray := prog_1_method_39_code
def yX7_gradedMass : MethodName := ⟨RX7, "gradedMass", "()I"⟩
abbrev cX7_meanFirmness : ByteArray := prog_1_method_40_code
def yX7_meanFirmness : MethodName := ⟨RX7, "meanFirmness", "()D"⟩
abbrev cX7_coolShare : ByteArray := prog_1_method_41_code
def yX7_coolShare : MethodName := ⟨RX7, "coolShare", "()F"⟩
abbrev cX7_feed : ByteArray := prog_1_method_42_code
def yX7_feed : MethodName := ⟨RX7, "feed", "(C)I"⟩
abbrev cX7_execute : ByteArray := prog_1_method_43_code
def yX7_execute : MethodName := ⟨RX7, "execute", "()I"⟩
abbrev cX7_writeCycle : ByteArray := prog_1_method_45_code
def yX7_writeCycle : MethodName := ⟨RX7, "writeCycle", "()I"⟩
abbrev cX7_writePat : ByteArray := prog_1_method_46_code
def yX7_writePat : MethodName := ⟨RX7, "writePat", "(I)I"⟩
abbrev cX7_denial : ByteArray := prog_1_method_48_code
def yX7_denial : MethodName := ⟨RX7, "denial", "()I"⟩
abbrev cX7_denialCause : ByteArray := prog_1_method_50_code
def yX7_denialCause : MethodName := ⟨RX7, "denialCause", "()I"⟩
abbrev cX7_undo : ByteArray := prog_1_method_51_code
def yX7_undo : MethodName := ⟨RX7, "undo", "()I"⟩
abbrev cX7_undoCount : ByteArray := prog_1_method_52_code
def yX7_undoCount : MethodName := ⟨RX7, "undoCount", "()I"⟩
abbrev cX7_saveSnapshot : ByteArray := prog_1_method_53_code
def yX7_saveSnapshot : MethodName := ⟨RX7, "saveSnapshot", "()I"⟩
abbrev cX7_restoreSnapshot : ByteArray := prog_1_method_54_code
def yX7_restoreSnapshot : MethodName := ⟨RX7, "restoreSnapshot", "()I"⟩
abbrev cX7_isWithin : ByteArray := prog_1_method_55_code
def yX7_isWithin : MethodName := ⟨RX7, "isWithin", "(III)Z"⟩
abbrev cX7_requirePhase : ByteArray := prog_1_method_56_code
def yX7_requirePhase : MethodName := ⟨RX7, "requirePhase", "(I)V"⟩
abbrev cX7_requirePat : ByteArray := prog_1_method_57_code
def yX7_requirePat : MethodName := ⟨RX7, "requirePat", "(I)V"⟩
abbrev cX7_requireDenial : ByteArray := prog_1_method_58_code
def yX7_requireDenial : MethodName := ⟨RX7, "requireDenial", "()V"⟩
abbrev cX7_requireRightNumbers : ByteArray := prog_1_method_59_code
def yX7_requireRightNumbers : MethodName := ⟨RX7, "requireRightNumbers", "(I)V"⟩
abbrev cX7_requireRightIndex : ByteArray := prog_1_method_60_code
def yX7_requireRightIndex : MethodName := ⟨RX7, "requireRightIndex", "(I)V"⟩
abbrev cX7_requireAllowed : ByteArray := prog_1_method_61_code
def yX7_requireAllowed : MethodName := ⟨RX7, "requireAllowed", "(II)V"⟩
abbrev cX7_keepDenial : ByteArray := prog_1_method_62_code
def yX7_keepDenial : MethodName := ⟨RX7, "keepDenial", "(III)V"⟩
abbrev cX7_tryMinutes : ByteArray := prog_1_method_63_code
def yX7_tryMinutes : MethodName := ⟨RX7, "tryMinutes", "(I)V"⟩
abbrev cX7_judgeCommand : ByteArray := prog_1_method_64_code
def yX7_judgeCommand : MethodName := ⟨RX7, "judgeCommand", "(I)I"⟩
abbrev cX7_carryOutCommand : ByteArray := prog_1_method_65_code
def yX7_carryOutCommand : MethodName := ⟨RX7, "carryOutCommand", "(I)V"⟩
def RX8 : String := "StoneChurnModel"
def TX8 : u_T := fun k => match k with
  | _ => ("", "", "", false)
def tyX8 : Nat → FieldType := fun k => match k with
  | _ => .int
abbrev wsX80 : List Cond := u_ws RX8 TX8 0
theorem nmX8 : ∀ a, a < 0 → ∀ b, b < 0 → a ≠ b → (TX8 a).2.1 ≠ (TX8 b).2.1 := by decide +kernel
theorem tyX8_ok : ∀ k, k < 0 → parseFieldDescriptor (TX8 k).2.2.1 = some (tyX8 k) := by decide +kernel
def RJx145de : String := "java/io/Serializable"
def TJx145de : u_T := fun k => match k with
  | _ => ("", "", "", false)
def tyJx145de : Nat → FieldType := fun k => match k with
  | _ => .int
abbrev wsJx145de0 : List Cond := u_ws RJx145de TJx145de 0
theorem nmJx145de : ∀ a, a < 0 → ∀ b, b < 0 → a ≠ b → (TJx145de a).2.1 ≠ (TJx145de b).2.1 := by decide +kernel
theorem tyJx145de_ok : ∀ k, k < 0 → parseFieldDescriptor (TJx145de k).2.2.1 = some (tyJx145de k) := by decide +kernel
def RJ5 : String := "java/lang/AbstractStringBuilder"
def TJ5 : u_T := fun k => match k with
  | _ => ("", "", "", false)
def tyJ5 : Nat → FieldType := fun k => match k with
  | _ => .int
abbrev wsJ50 : List Cond := u_ws RJ5 TJ5 0
theorem nmJ5 : ∀ a, a < 0 → ∀ b, b < 0 → a ≠ b → (TJ5 a).2.1 ≠ (TJ5 b).2.1 := by decide +kernel
theorem tyJ5_ok : ∀ k, k < 0 → parseFieldDescriptor (TJ5 k).2.2.1 = some (tyJ5 k) := by decide +kernel
abbrev cJ5_init_d00df : ByteArray := prog_12_method_2_code
def yJ5_init_d00df : MethodName := ⟨RJ5, "<init>", "(I)V"⟩
abbrev cJ5_length_8abf5 : ByteArray := prog_12_method_6_code
def yJ5_length_8abf5 : MethodName := ⟨RJ5, "length", "()I"⟩
abbrev cJ5_ensureCapacityInternal_d00df : ByteArray := prog_12_method_9_code
def yJ5_ensureCapacityInternal_d00df : MethodName := ⟨RJ5, "ensureCapacityInternal", "(I)V"⟩
abbrev cJ5_newCapacity_0f7a4 : ByteArray := prog_12_method_10_code
def yJ5_newCapacity_0f7a4 : MethodName := ⟨RJ5, "newCapacity", "(I)I"⟩
abbrev cJ5_inflate_da8c8 : ByteArray := prog_12_method_11_code
def yJ5_inflate_da8c8 : MethodName := ⟨RJ5, "inflate", "()V"⟩
abbrev cJ5_setLength_d00df : ByteArray := prog_12_method_13_code
def yJ5_setLength_d00df : MethodName := ⟨RJ5, "setLength", "(I)V"⟩
abbrev cJ5_append_cf1ce : ByteArray := prog_12_method_22_code
def yJ5_append_cf1ce : MethodName := ⟨RJ5, "append", "(Ljava/lang/String;)Ljava/lang/AbstractStringBuilder;"⟩
abbrev cJ5_appendNull_278bc : ByteArray := prog_12_method_26_code
def yJ5_appendNull_278bc : MethodName := ⟨RJ5, "appendNull", "()Ljava/lang/AbstractStringBuilder;"⟩
abbrev cJ5_append_3fe6f : ByteArray := prog_12_method_31_code
def yJ5_append_3fe6f : MethodName := ⟨RJ5, "append", "(C)Ljava/lang/AbstractStringBuilder;"⟩
abbrev cJ5_append_c97b9 : ByteArray := prog_12_method_32_code
def yJ5_append_c97b9 : MethodName := ⟨RJ5, "append", "(I)Ljava/lang/AbstractStringBuilder;"⟩
abbrev cJ5_getValue_6d5f1 : ByteArray := prog_12_method_64_code
def yJ5_getValue_6d5f1 : MethodName := ⟨RJ5, "getValue", "()[B"⟩
abbrev cJ5_isLatin1_aae02 : ByteArray := prog_12_method_68_code
def yJ5_isLatin1_aae02 : MethodName := ⟨RJ5, "isLatin1", "()Z"⟩
abbrev cJ5_inflateIfNeededFor_a7421 : ByteArray := prog_12_method_71_code
def yJ5_inflateIfNeededFor_a7421 : MethodName := ⟨RJ5, "inflateIfNeededFor", "(Ljava/lang/String;)V"⟩
abbrev cJ5_putStringAt_47b60 : ByteArray := prog_12_method_73_code
def yJ5_putStringAt_47b60 : MethodName := ⟨RJ5, "putStringAt", "(ILjava/lang/String;)V"⟩
def RJx2cfe8 : String := "java/lang/Appendable"
def TJx2cfe8 : u_T := fun k => match k with
  | _ => ("", "", "", false)
def tyJx2cfe8 : Nat → FieldType := fun k => match k with
  | _ => .int
abbrev wsJx2cfe80 : List Cond := u_ws RJx2cfe8 TJx2cfe8 0
theorem nmJx2cfe8 : ∀ a, a < 0 → ∀ b, b < 0 → a ≠ b → (TJx2cfe8 a).2.1 ≠ (TJx2cfe8 b).2.1 := by decide +kernel
theorem tyJx2cfe8_ok : ∀ k, k < 0 → parseFieldDescriptor (TJx2cfe8 k).2.2.1 = some (tyJx2cfe8 k) := by decide +kernel
def RJx00060 : String := "java/lang/ArrayIndexOutOfBoundsException"
def TJx00060 : u_T := fun k => match k with
  | 0 => ("java/lang/Throwable", "backtrace", "Ljava/lang/Object;", false)
  | 1 => ("java/lang/Throwable", "detailMessage", "Ljava/lang/String;", false)
  | 2 => ("java/lang/Throwable", "cause", "Ljava/lang/Throwable;", false)
  | 3 => ("java/lang/Throwable", "stackTrace", "[Ljava/lang/StackTraceElement;", false)
  | 4 => ("java/lang/Throwable", "depth", "I", false)
  | _ => ("java/lang/Throwable", "suppressedExceptions", "Ljava/util/List;", false)
def tyJx00060 : Nat → FieldType := fun k => match k with
  | 0 => .object "java/lang/Object"
  | 1 => .object "java/lang/String"
  | 2 => .object "java/lang/Throwable"
  | 3 => .array (.object "java/lang/StackTraceElement")
  | 4 => .int
  | _ => .object "java/util/List"
abbrev wsJx000600 : List Cond := u_ws RJx00060 TJx00060 6
theorem nmJx00060 : ∀ a, a < 6 → ∀ b, b < 6 → a ≠ b → (TJx00060 a).2.1 ≠ (TJx00060 b).2.1 := by decide +kernel
theorem tyJx00060_ok : ∀ k, k < 6 → parseFieldDescriptor (TJx00060 k).2.2.1 = some (tyJx00060 k) := by decide +kernel
abbrev cJx00060_init_a7421 : ByteArray := prog_15_method_2_code
def yJx00060_init_a7421 : MethodName := ⟨RJx00060, "<init>", "(Ljava/lang/String;)V"⟩
abbrev cJx00060_init_d00df : ByteArray := prog_15_method_3_code
def yJx00060_init_d00df : MethodName := ⟨RJx00060, "<init>", "(I)V"⟩
def RJx9f9b0 : String := "java/lang/CharSequence"
def TJx9f9b0 : u_T := fun k => match k with
  | _ => ("", "", "", false)
def tyJx9f9b0 : Nat → FieldType := fun k => match k with
  | _ => .int
abbrev wsJx9f9b00 : List Cond := u_ws RJx9f9b0 TJx9f9b0 0
theorem nmJx9f9b0 : ∀ a, a < 0 → ∀ b, b < 0 → a ≠ b → (TJx9f9b0 a).2.1 ≠ (TJx9f9b0 b).2.1 := by decide +kernel
theorem tyJx9f9b0_ok : ∀ k, k < 0 → parseFieldDescriptor (TJx9f9b0 k).2.2.1 = some (tyJx9f9b0 k) := by decide +kernel
def RJx8e188 : String := "java/lang/Cloneable"
def TJx8e188 : u_T := fun k => match k with
  | _ => ("", "", "", false)
def tyJx8e188 : Nat → FieldType := fun k => match k with
  | _ => .int
abbrev wsJx8e1880 : List Cond := u_ws RJx8e188 TJx8e188 0
theorem nmJx8e188 : ∀ a, a < 0 → ∀ b, b < 0 → a ≠ b → (TJx8e188 a).2.1 ≠ (TJx8e188 b).2.1 := by decide +kernel
theorem tyJx8e188_ok : ∀ k, k < 0 → parseFieldDescriptor (TJx8e188 k).2.2.1 = some (tyJx8e188 k) := by decide +kernel
def RJxb160c : String := "java/lang/Comparable"
def TJxb160c : u_T := fun k => match k with
  | _ => ("", "", "", false)
def tyJxb160c : Nat → FieldType := fun k => match k with
  | _ => .int
abbrev wsJxb160c0 : List Cond := u_ws RJxb160c TJxb160c 0
theorem nmJxb160c : ∀ a, a < 0 → ∀ b, b < 0 → a ≠ b → (TJxb160c a).2.1 ≠ (TJxb160c b).2.1 := by decide +kernel
theorem tyJxb160c_ok : ∀ k, k < 0 → parseFieldDescriptor (TJxb160c k).2.2.1 = some (tyJxb160c k) := by decide +kernel
def RJ6 : String := "java/lang/Integer"
def TJ6 : u_T := fun k => match k with
  | _ => ("", "", "", false)
def tyJ6 : Nat → FieldType := fun k => match k with
  | _ => .int
abbrev wsJ60 : List Cond := u_ws RJ6 TJ6 0
theorem nmJ6 : ∀ a, a < 0 → ∀ b, b < 0 → a ≠ b → (TJ6 a).2.1 ≠ (TJ6 b).2.1 := by decide +kernel
theorem tyJ6_ok : ∀ k, k < 0 → parseFieldDescriptor (TJ6 k).2.2.1 = some (tyJ6 k) := by decide +kernel
abbrev cJ6_getChars_ba4f3 : ByteArray := prog_23_method_12_code
def yJ6_getChars_ba4f3 : MethodName := ⟨RJ6, "getChars", "(II[B)I"⟩
abbrev cJ6_stringSize_0f7a4 : ByteArray := prog_23_method_13_code
def yJ6_stringSize_0f7a4 : MethodName := ⟨RJ6, "stringSize", "(I)I"⟩
def RJ9 : String := "java/lang/Math"
def TJ9 : u_T := fun k => match k with
  | _ => ("", "", "", false)
def tyJ9 : Nat → FieldType := fun k => match k with
  | _ => .int
abbrev wsJ90 : List Cond := u_ws RJ9 TJ9 0
theorem nmJ9 : ∀ a, a < 0 → ∀ b, b < 0 → a ≠ b → (TJ9 a).2.1 ≠ (TJ9 b).2.1 := by decide +kernel
theorem tyJ9_ok : ∀ k, k < 0 → parseFieldDescriptor (TJ9 k).2.2.1 = some (tyJ9 k) := by decide +kernel
abbrev cJ9_max_7cf53 : ByteArray := prog_24_method_65_code
def yJ9_max_7cf53 : MethodName := ⟨RJ9, "max", "(II)I"⟩
abbrev cJ9_min_7cf53 : ByteArray := prog_24_method_69_code
def yJ9_min_7cf53 : MethodName := ⟨RJ9, "min", "(II)I"⟩
def RJxd2413 : String := "java/lang/Number"
def TJxd2413 : u_T := fun k => match k with
  | _ => ("", "", "", false)
def tyJxd2413 : Nat → FieldType := fun k => match k with
  | _ => .int
abbrev wsJxd24130 : List Cond := u_ws RJxd2413 TJxd2413 0
theorem nmJxd2413 : ∀ a, a < 0 → ∀ b, b < 0 → a ≠ b → (TJxd2413 a).2.1 ≠ (TJxd2413 b).2.1 := by decide +kernel
theorem tyJxd2413_ok : ∀ k, k < 0 → parseFieldDescriptor (TJxd2413 k).2.2.1 = some (tyJxd2413 k) := by decide +kernel
def RJ0 : String := "java/lang/String"
def TJ0 : u_T := fun k => match k with
  | 0 => ("java/lang/String", "value", "[B", true)
  | 1 => ("java/lang/String", "coder", "B", true)
  | 2 => ("java/lang/String", "hash", "I", false)
  | _ => ("java/lang/String", "hashIsZero", "Z", false)
def tyJ0 : Nat → FieldType := fun k => match k with
  | 0 => .array .byte
  | 1 => .byte
  | 2 => .int
  | _ => .boolean
abbrev wsJ00 : List Cond := u_ws RJ0 TJ0 4
theorem nmJ0 : ∀ a, a < 4 → ∀ b, b < 4 → a ≠ b → (TJ0 a).2.1 ≠ (TJ0 b).2.1 := by decide +kernel
theorem tyJ0_ok : ∀ k, k < 4 → parseFieldDescriptor (TJ0 k).2.2.1 = some (tyJ0 k) := by decide +kernel
abbrev cJ0_init_81219 : ByteArray := prog_27_method_53_code
def yJ0_init_81219 : MethodName := ⟨RJ0, "<init>", "(Ljava/lang/StringBuilder;)V"⟩
abbrev cJ0_length_8abf5 : ByteArray := prog_27_method_54_code
def yJ0_length_8abf5 : MethodName := ⟨RJ0, "length", "()I"⟩
abbrev cJ0_charAt_5068e : ByteArray := prog_27_method_56_code
def yJ0_charAt_5068e : MethodName := ⟨RJ0, "charAt", "(I)C"⟩
abbrev cJ0_getBytes_840e7 : ByteArray := prog_27_method_147_code
def yJ0_getBytes_840e7 : MethodName := ⟨RJ0, "getBytes", "([BIB)V"⟩
abbrev cJ0_init_db425 : ByteArray := prog_27_method_150_code
def yJ0_init_db425 : MethodName := ⟨RJ0, "<init>", "(Ljava/lang/AbstractStringBuilder;Ljava/lang/Void;)V"⟩
abbrev cJ0_coder_7d493 : ByteArray := prog_27_method_152_code
def yJ0_coder_7d493 : MethodName := ⟨RJ0, "coder", "()B"⟩
abbrev cJ0_isLatin1_aae02 : ByteArray := prog_27_method_154_code
def yJ0_isLatin1_aae02 : MethodName := ⟨RJ0, "isLatin1", "()Z"⟩
abbrev cJ0_checkIndex_df160 : ByteArray := prog_27_method_155_code
def yJ0_checkIndex_df160 : MethodName := ⟨RJ0, "checkIndex", "(II)V"⟩
abbrev cJ0_checkBoundsOffCount_cabcc : ByteArray := prog_27_method_157_code
def yJ0_checkBoundsOffCount_cabcc : MethodName := ⟨RJ0, "checkBoundsOffCount", "(III)I"⟩
abbrev cJ0_checkBoundsBeginEnd_23922 : ByteArray := prog_27_method_158_code
def yJ0_checkBoundsBeginEnd_23922 : MethodName := ⟨RJ0, "checkBoundsBeginEnd", "(III)V"⟩
def RJ4 : String := "java/lang/StringBuilder"
def TJ4 : u_T := fun k => match k with
  | 0 => ("java/lang/AbstractStringBuilder", "value", "[B", false)
  | 1 => ("java/lang/AbstractStringBuilder", "coder", "B", false)
  | 2 => ("java/lang/AbstractStringBuilder", "maybeLatin1", "Z", false)
  | _ => ("java/lang/AbstractStringBuilder", "count", "I", false)
def tyJ4 : Nat → FieldType := fun k => match k with
  | 0 => .array .byte
  | 1 => .byte
  | 2 => .boolean
  | _ => .int
abbrev wsJ40 : List Cond := u_ws RJ4 TJ4 4
theorem nmJ4 : ∀ a, a < 4 → ∀ b, b < 4 → a ≠ b → (TJ4 a).2.1 ≠ (TJ4 b).2.1 := by decide +kernel
theorem tyJ4_ok : ∀ k, k < 4 → parseFieldDescriptor (TJ4 k).2.2.1 = some (tyJ4 k) := by decide +kernel
abbrev cJ4_init_da8c8 : ByteArray := prog_28_method_1_code
def yJ4_init_da8c8 : MethodName := ⟨RJ4, "<init>", "()V"⟩
abbrev cJ4_append_15ec4 : ByteArray := prog_28_method_7_code
def yJ4_append_15ec4 : MethodName := ⟨RJ4, "append", "(Ljava/lang/String;)Ljava/lang/StringBuilder;"⟩
abbrev cJ4_append_cf468 : ByteArray := prog_28_method_14_code
def yJ4_append_cf468 : MethodName := ⟨RJ4, "append", "(C)Ljava/lang/StringBuilder;"⟩
abbrev cJ4_append_bf812 : ByteArray := prog_28_method_15_code
def yJ4_append_bf812 : MethodName := ⟨RJ4, "append", "(I)Ljava/lang/StringBuilder;"⟩
abbrev cJ4_toString_0e30d : ByteArray := prog_28_method_42_code
def yJ4_toString_0e30d : MethodName := ⟨RJ4, "toString", "()Ljava/lang/String;"⟩
abbrev cJ4_setLength_d00df : ByteArray := prog_28_method_89_code
def yJ4_setLength_d00df : MethodName := ⟨RJ4, "setLength", "(I)V"⟩
abbrev cJ4_length_8abf5 : ByteArray := prog_28_method_93_code
def yJ4_length_8abf5 : MethodName := ⟨RJ4, "length", "()I"⟩
def RJx7c733 : String := "java/lang/StringIndexOutOfBoundsException"
def TJx7c733 : u_T := fun k => match k with
  | 0 => ("java/lang/Throwable", "backtrace", "Ljava/lang/Object;", false)
  | 1 => ("java/lang/Throwable", "detailMessage", "Ljava/lang/String;", false)
  | 2 => ("java/lang/Throwable", "cause", "Ljava/lang/Throwable;", false)
  | 3 => ("java/lang/Throwable", "stackTrace", "[Ljava/lang/StackTraceElement;", false)
  | 4 => ("java/lang/Throwable", "depth", "I", false)
  | _ => ("java/lang/Throwable", "suppressedExceptions", "Ljava/util/List;", false)
def tyJx7c733 : Nat → FieldType := fun k => match k with
  | 0 => .object "java/lang/Object"
  | 1 => .object "java/lang/String"
  | 2 => .object "java/lang/Throwable"
  | 3 => .array (.object "java/lang/StackTraceElement")
  | 4 => .int
  | _ => .object "java/util/List"
abbrev wsJx7c7330 : List Cond := u_ws RJx7c733 TJx7c733 6
theorem nmJx7c733 : ∀ a, a < 6 → ∀ b, b < 6 → a ≠ b → (TJx7c733 a).2.1 ≠ (TJx7c733 b).2.1 := by decide +kernel
theorem tyJx7c733_ok : ∀ k, k < 6 → parseFieldDescriptor (TJx7c733 k).2.2.1 = some (tyJx7c733 k) := by decide +kernel
abbrev cJx7c733_init_d00df : ByteArray := prog_29_method_3_code
def yJx7c733_init_d00df : MethodName := ⟨RJx7c733, "<init>", "(I)V"⟩
def RJ1 : String := "java/lang/StringLatin1"
def TJ1 : u_T := fun k => match k with
  | _ => ("", "", "", false)
def tyJ1 : Nat → FieldType := fun k => match k with
  | _ => .int
abbrev wsJ10 : List Cond := u_ws RJ1 TJ1 0
theorem nmJ1 : ∀ a, a < 0 → ∀ b, b < 0 → a ≠ b → (TJ1 a).2.1 ≠ (TJ1 b).2.1 := by decide +kernel
theorem tyJ1_ok : ∀ k, k < 0 → parseFieldDescriptor (TJ1 k).2.2.1 = some (tyJ1 k) := by decide +kernel
abbrev cJ1_charAt_3b067 : ByteArray := prog_30_method_2_code
def yJ1_charAt_3b067 : MethodName := ⟨RJ1, "charAt", "([BI)C"⟩
abbrev cJ1_canEncode_fc78d : ByteArray := prog_30_method_3_code
def yJ1_canEncode_fc78d : MethodName := ⟨RJ1, "canEncode", "(C)Z"⟩
abbrev cJ1_fillNull_b72d1 : ByteArray := prog_30_method_48_code
def yJ1_fillNull_b72d1 : MethodName := ⟨RJ1, "fillNull", "([BII)V"⟩
abbrev cJ1_inflate_0e8fd : ByteArray := prog_30_method_50_code
def yJ1_inflate_0e8fd : MethodName := ⟨RJ1, "inflate", "([BI[BII)V"⟩
def RJ2 : String := "java/lang/StringUTF16"
def TJ2 : u_T := fun k => match k with
  | _ => ("", "", "", false)
def tyJ2 : Nat → FieldType := fun k => match k with
  | _ => .int
abbrev wsJ20 : List Cond := u_ws RJ2 TJ2 0
theorem nmJ2 : ∀ a, a < 0 → ∀ b, b < 0 → a ≠ b → (TJ2 a).2.1 ≠ (TJ2 b).2.1 := by decide +kernel
theorem tyJ2_ok : ∀ k, k < 0 → parseFieldDescriptor (TJ2 k).2.2.1 = some (tyJ2 k) := by decide +kernel
abbrev cJ2_newBytesFor_77867 : ByteArray := prog_31_method_2_code
def yJ2_newBytesFor_77867 : MethodName := ⟨RJ2, "newBytesFor", "(I)[B"⟩
abbrev cJ2_newBytesLength_0f7a4 : ByteArray := prog_31_method_3_code
def yJ2_newBytesLength_0f7a4 : MethodName := ⟨RJ2, "newBytesLength", "(I)I"⟩
abbrev cJ2_putChar_b72d1 : ByteArray := prog_31_method_4_code
def yJ2_putChar_b72d1 : MethodName := ⟨RJ2, "putChar", "([BII)V"⟩
abbrev cJ2_getChar_3b067 : ByteArray := prog_31_method_5_code
def yJ2_getChar_3b067 : MethodName := ⟨RJ2, "getChar", "([BI)C"⟩
abbrev cJ2_length_9d52b : ByteArray := prog_31_method_6_code
def yJ2_length_9d52b : MethodName := ⟨RJ2, "length", "([B)I"⟩
abbrev cJ2_coderFromArrayLen_85cad : ByteArray := prog_31_method_15_code
def yJ2_coderFromArrayLen_85cad : MethodName := ⟨RJ2, "coderFromArrayLen", "([BI)B"⟩
abbrev cJ2_compress_39247 : ByteArray := prog_31_method_17_code
def yJ2_compress_39247 : MethodName := ⟨RJ2, "compress", "([BII)[B"⟩
abbrev cJ2_compress_5af95 : ByteArray := prog_31_method_22_code
def yJ2_compress_5af95 : MethodName := ⟨RJ2, "compress", "([BI[BII)I"⟩
abbrev cJ2_fillNull_b72d1 : ByteArray := prog_31_method_70_code
def yJ2_fillNull_b72d1 : MethodName := ⟨RJ2, "fillNull", "([BII)V"⟩
abbrev cJ2_putCharSB_b72d1 : ByteArray := prog_31_method_71_code
def yJ2_putCharSB_b72d1 : MethodName := ⟨RJ2, "putCharSB", "([BII)V"⟩
abbrev cJ2_getChars_46870 : ByteArray := prog_31_method_77_code
def yJ2_getChars_46870 : MethodName := ⟨RJ2, "getChars", "(III[B)I"⟩
abbrev cJ2_putCharsAt_cd4e5 : ByteArray := prog_31_method_81_code
def yJ2_putCharsAt_cd4e5 : MethodName := ⟨RJ2, "putCharsAt", "([BICCCC)I"⟩
abbrev cJ2_charAt_3b067 : ByteArray := prog_31_method_83_code
def yJ2_charAt_3b067 : MethodName := ⟨RJ2, "charAt", "([BI)C"⟩
abbrev cJ2_inflate_0e8fd : ByteArray := prog_31_method_86_code
def yJ2_inflate_0e8fd : MethodName := ⟨RJ2, "inflate", "([BI[BII)V"⟩
abbrev cJ2_getChars_ba4f3 : ByteArray := prog_31_method_89_code
def yJ2_getChars_ba4f3 : MethodName := ⟨RJ2, "getChars", "(II[B)I"⟩
abbrev cJ2_checkIndex_2214a : ByteArray := prog_31_method_91_code
def yJ2_checkIndex_2214a : MethodName := ⟨RJ2, "checkIndex", "(I[B)V"⟩
abbrev cJ2_checkBoundsBeginEnd_d044e : ByteArray := prog_31_method_93_code
def yJ2_checkBoundsBeginEnd_d044e : MethodName := ⟨RJ2, "checkBoundsBeginEnd", "(II[B)V"⟩
abbrev cJ2_checkBoundsOffCount_d044e : ByteArray := prog_31_method_94_code
def yJ2_checkBoundsOffCount_d044e : MethodName := ⟨RJ2, "checkBoundsOffCount", "(II[B)V"⟩
def RJ10 : String := "java/lang/System"
def TJ10 : u_T := fun k => match k with
  | _ => ("", "", "", false)
def tyJ10 : Nat → FieldType := fun k => match k with
  | _ => .int
abbrev wsJ100 : List Cond := u_ws RJ10 TJ10 0
theorem nmJ10 : ∀ a, a < 0 → ∀ b, b < 0 → a ≠ b → (TJ10 a).2.1 ≠ (TJ10 b).2.1 := by decide +kernel
theorem tyJ10_ok : ∀ k, k < 0 → parseFieldDescriptor (TJ10 k).2.2.1 = some (tyJ10 k) := by decide +kernel
def RJxfd54e : String := "java/lang/constant/Constable"
def TJxfd54e : u_T := fun k => match k with
  | _ => ("", "", "", false)
def tyJxfd54e : Nat → FieldType := fun k => match k with
  | _ => .int
abbrev wsJxfd54e0 : List Cond := u_ws RJxfd54e TJxfd54e 0
theorem nmJxfd54e : ∀ a, a < 0 → ∀ b, b < 0 → a ≠ b → (TJxfd54e a).2.1 ≠ (TJxfd54e b).2.1 := by decide +kernel
theorem tyJxfd54e_ok : ∀ k, k < 0 → parseFieldDescriptor (TJxfd54e k).2.2.1 = some (tyJxfd54e k) := by decide +kernel
def RJx3cf43 : String := "java/lang/constant/ConstantDesc"
def TJx3cf43 : u_T := fun k => match k with
  | _ => ("", "", "", false)
def tyJx3cf43 : Nat → FieldType := fun k => match k with
  | _ => .int
abbrev wsJx3cf430 : List Cond := u_ws RJx3cf43 TJx3cf43 0
theorem nmJx3cf43 : ∀ a, a < 0 → ∀ b, b < 0 → a ≠ b → (TJx3cf43 a).2.1 ≠ (TJx3cf43 b).2.1 := by decide +kernel
theorem tyJx3cf43_ok : ∀ k, k < 0 → parseFieldDescriptor (TJx3cf43 k).2.2.1 = some (tyJx3cf43 k) := by decide +kernel
def RJ7 : String := "java/util/Arrays"
def TJ7 : u_T := fun k => match k with
  | _ => ("", "", "", false)
def tyJ7 : Nat → FieldType := fun k => match k with
  | _ => .int
abbrev wsJ70 : List Cond := u_ws RJ7 TJ7 0
theorem nmJ7 : ∀ a, a < 0 → ∀ b, b < 0 → a ≠ b → (TJ7 a).2.1 ≠ (TJ7 b).2.1 := by decide +kernel
theorem tyJ7_ok : ∀ k, k < 0 → parseFieldDescriptor (TJ7 k).2.2.1 = some (tyJ7 k) := by decide +kernel
abbrev cJ7_rangeCheck_23922 : ByteArray := prog_37_method_30_code
def yJ7_rangeCheck_23922 : MethodName := ⟨RJ7, "rangeCheck", "(III)V"⟩
abbrev cJ7_fill_eb02e : ByteArray := prog_37_method_110_code
def yJ7_fill_eb02e : MethodName := ⟨RJ7, "fill", "([BIIB)V"⟩
abbrev cJ7_copyOf_9075b : ByteArray := prog_37_method_121_code
def yJ7_copyOf_9075b : MethodName := ⟨RJ7, "copyOf", "([BI)[B"⟩
abbrev cJ7_checkLength_df160 : ByteArray := prog_37_method_131_code
def yJ7_checkLength_df160 : MethodName := ⟨RJ7, "checkLength", "(II)V"⟩
abbrev cJ7_copyOfRange_39247 : ByteArray := prog_37_method_132_code
def yJ7_copyOfRange_39247 : MethodName := ⟨RJ7, "copyOfRange", "([BII)[B"⟩
abbrev cJ7_copyOfRangeByte_39247 : ByteArray := prog_37_method_133_code
def yJ7_copyOfRangeByte_39247 : MethodName := ⟨RJ7, "copyOfRangeByte", "([BII)[B"⟩
def RJ8 : String := "jdk/internal/util/ArraysSupport"
def TJ8 : u_T := fun k => match k with
  | _ => ("", "", "", false)
def tyJ8 : Nat → FieldType := fun k => match k with
  | _ => .int
abbrev wsJ80 : List Cond := u_ws RJ8 TJ8 0
theorem nmJ8 : ∀ a, a < 0 → ∀ b, b < 0 → a ≠ b → (TJ8 a).2.1 ≠ (TJ8 b).2.1 := by decide +kernel
theorem tyJ8_ok : ∀ k, k < 0 → parseFieldDescriptor (TJ8 k).2.2.1 = some (tyJ8 k) := by decide +kernel
abbrev cJ8_newLength_cabcc : ByteArray := prog_39_method_27_code
def yJ8_newLength_cabcc : MethodName := ⟨RJ8, "newLength", "(III)I"⟩
abbrev cJ8_hugeLength_7cf53 : ByteArray := prog_39_method_28_code
def yJ8_hugeLength_7cf53 : MethodName := ⟨RJ8, "hugeLength", "(II)I"⟩
def RJ3 : String := "jdk/internal/util/Preconditions"
def TJ3 : u_T := fun k => match k with
  | _ => ("", "", "", false)
def tyJ3 : Nat → FieldType := fun k => match k with
  | _ => .int
abbrev wsJ30 : List Cond := u_ws RJ3 TJ3 0
theorem nmJ3 : ∀ a, a < 0 → ∀ b, b < 0 → a ≠ b → (TJ3 a).2.1 ≠ (TJ3 b).2.1 := by decide +kernel
theorem tyJ3_ok : ∀ k, k < 0 → parseFieldDescriptor (TJ3 k).2.2.1 = some (tyJ3 k) := by decide +kernel
abbrev cJ3_checkIndex_8e157 : ByteArray := prog_40_method_11_code
def yJ3_checkIndex_8e157 : MethodName := ⟨RJ3, "checkIndex", "(IILjava/util/function/BiFunction;)I"⟩
abbrev cJ3_checkFromToIndex_8c36e : ByteArray := prog_40_method_12_code
def yJ3_checkFromToIndex_8c36e : MethodName := ⟨RJ3, "checkFromToIndex", "(IIILjava/util/function/BiFunction;)I"⟩
abbrev cJ3_checkFromIndexSize_8c36e : ByteArray := prog_40_method_13_code
def yJ3_checkFromIndexSize_8c36e : MethodName := ⟨RJ3, "checkFromIndexSize", "(IIILjava/util/function/BiFunction;)I"⟩
def RL : String := "StoneChurnLaw"
abbrev cL_cell : ByteArray := method_2_code
def yL_cell : MethodName := ⟨RL, "cell", "([II)I"⟩
abbrev cL_addPhase : ByteArray := method_3_code
def yL_addPhase : MethodName := ⟨RL, "addPhase", "(LStoneChurn;CII)I"⟩
abbrev cL_removePhase : ByteArray := method_4_code
def yL_removePhase : MethodName := ⟨RL, "removePhase", "(LStoneChurn;I)I"⟩
abbrev cL_start : ByteArray := method_5_code
def yL_start : MethodName := ⟨RL, "start", "(LStoneChurn;)I"⟩
abbrev cL_stop : ByteArray := method_6_code
def yL_stop : MethodName := ⟨RL, "stop", "(LStoneChurn;)I"⟩
abbrev cL_run : ByteArray := method_7_code
def yL_run : MethodName := ⟨RL, "run", "(LStoneChurn;I)I"⟩
abbrev cL_load : ByteArray := method_8_code
def yL_load : MethodName := ⟨RL, "load", "(LStoneChurn;I)I"⟩
abbrev cL_press : ByteArray := method_9_code
def yL_press : MethodName := ⟨RL, "press", "(LStoneChurn;I)I"⟩
abbrev cL_gradePat : ByteArray := method_10_code
def yL_gradePat : MethodName := ⟨RL, "gradePat", "(LStoneChurn;I)I"⟩
abbrev cL_crush : ByteArray := method_11_code
def yL_crush : MethodName := ⟨RL, "crush", "(LStoneChurn;I)I"⟩
abbrev cL_presentPhase : ByteArray := method_12_code
def yL_presentPhase : MethodName := ⟨RL, "presentPhase", "(LStoneChurn;)I"⟩
abbrev cL_patByFirmness : ByteArray := method_13_code
def yL_patByFirmness : MethodName := ⟨RL, "patByFirmness", "(LStoneChurn;I)I"⟩
abbrev cL_nextCool : ByteArray := method_14_code
def yL_nextCool : MethodName := ⟨RL, "nextCool", "(LStoneChurn;I)I"⟩
abbrev cL_meanFirmness : ByteArray := method_15_code
def yL_meanFirmness : MethodName := ⟨RL, "meanFirmness", "(LStoneChurn;)D"⟩
abbrev cL_coolShare : ByteArray := method_16_code
def yL_coolShare : MethodName := ⟨RL, "coolShare", "(LStoneChurn;)F"⟩
abbrev cL_execute : ByteArray := method_17_code
def yL_execute : MethodName := ⟨RL, "execute", "(LStoneChurn;)I"⟩
abbrev cL_denial : ByteArray := method_18_code
def yL_denial : MethodName := ⟨RL, "denial", "(LStoneChurn;)I"⟩
abbrev cL_denialCause : ByteArray := method_19_code
def yL_denialCause : MethodName := ⟨RL, "denialCause", "(LStoneChurn;)I"⟩
abbrev cL_undo : ByteArray := method_20_code
def yL_undo : MethodName := ⟨RL, "undo", "(LStoneChurn;)I"⟩
abbrev cL_restore : ByteArray := method_21_code
def yL_restore : MethodName := ⟨RL, "restore", "(LStoneChurn;)I"⟩
abbrev cL_put : ByteArray := method_22_code
def yL_put : MethodName := ⟨RL, "put", "(LStoneChurn;C)Z"⟩
abbrev cL_write : ByteArray := method_23_code
def yL_write : MethodName := ⟨RL, "write", "(LStoneChurn;Ljava/lang/String;)LStoneChurn;"⟩
abbrev cL_act : ByteArray := method_24_code
def yL_act : MethodName := ⟨RL, "act", "(LStoneChurn;I)I"⟩
abbrev cL_digest : ByteArray := method_25_code
def yL_digest : MethodName := ⟨RL, "digest", "(LStoneChurn;)J"⟩
abbrev cL_isCycle : ByteArray := method_26_code
def yL_isCycle : MethodName := ⟨RL, "isCycle", "(LStoneChurn;)Z"⟩
abbrev cL_arePats : ByteArray := method_27_code
def yL_arePats : MethodName := ⟨RL, "arePats", "(LStoneChurn;)Z"⟩
abbrev cL_isForetold : ByteArray := method_28_code
def yL_isForetold : MethodName := ⟨RL, "isForetold", "(LStoneChurn;I)Z"⟩
abbrev cL_isPressed : ByteArray := method_29_code
def yL_isPressed : MethodName := ⟨RL, "isPressed", "(LStoneChurn;I)Z"⟩
abbrev cL_isFit : ByteArray := method_30_code
def yL_isFit : MethodName := ⟨RL, "isFit", "(LStoneChurn;)Z"⟩
abbrev cL_law : ByteArray := code
def yL_law : MethodName := ⟨RL, "law", "([I)Z"⟩
abbrev vwCl : List vw_C := [(RJ0, TJ0, 4), (RJ4, TJ4, 4), (RJx00060, TJx00060, 6), (RJx7c733, TJx7c733, 6), (RX0, TX0, 4), (RX1, TX1, 4), (RX2, TX2, 7), (RX3, TX3, 3), (RX4, TX4, 5), (RX5, TX5, 4), (RX6, TX6, 8), (RX7, TX7, 11)]
