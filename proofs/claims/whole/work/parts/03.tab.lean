/-! tables of the program, by wip/whole/gen_tab.py out of the claim's own papers: classes, methods, links, decode rows -/
def gR0 : String := "RepairBarrows$Barrow"
def gT0 : u_T := fun k => match k with
  | 0 => ("RepairBarrows$Barrow", "x", "I", false)
  | 1 => ("RepairBarrows$Barrow", "y", "I", false)
  | 2 => ("RepairBarrows$Barrow", "clock", "I", false)
  | 3 => ("RepairBarrows$Barrow", "earnings", "I", false)
  | _ => ("RepairBarrows$Barrow", "parts", "[I", true)
def gY0 : Nat → FieldType := fun k => match k with
  | 0 => .int
  | 1 => .int
  | 2 => .int
  | 3 => .int
  | _ => (.array .int)
def gR1 : String := "RepairBarrows$Command"
def gT1 : u_T := fun k => match k with
  | 0 => ("RepairBarrows$Command", "verb", "LRepairBarrows$Verb;", false)
  | _ => ("RepairBarrows$Command", "arguments", "[I", true)
def gY1 : Nat → FieldType := fun k => match k with
  | 0 => (.object "RepairBarrows$Verb")
  | _ => (.array .int)
def gR2 : String := "RepairBarrows$History"
def gT2 : u_T := fun k => match k with
  | 0 => ("RepairBarrows$History", "rows", "[LRepairBarrows$State;", true)
  | 1 => ("RepairBarrows$History", "next", "I", false)
  | _ => ("RepairBarrows$History", "count", "I", false)
def gY2 : Nat → FieldType := fun k => match k with
  | 0 => (.array (.object "RepairBarrows$State"))
  | 1 => .int
  | _ => .int
def gR3 : String := "RepairBarrows$Job"
def gT3 : u_T := fun k => match k with
  | 0 => ("RepairBarrows$Job", "number", "I", false)
  | 1 => ("RepairBarrows$Job", "x", "I", false)
  | 2 => ("RepairBarrows$Job", "y", "I", false)
  | 3 => ("RepairBarrows$Job", "kind", "I", false)
  | 4 => ("RepairBarrows$Job", "tool", "I", false)
  | 5 => ("RepairBarrows$Job", "work", "I", false)
  | 6 => ("RepairBarrows$Job", "due", "I", false)
  | _ => ("RepairBarrows$Job", "barrow", "I", false)
def gY3 : Nat → FieldType := fun k => match k with
  | 0 => .int
  | 1 => .int
  | 2 => .int
  | 3 => .int
  | 4 => .int
  | 5 => .int
  | 6 => .int
  | _ => .int
def gR4 : String := "RepairBarrows$Planner"
def gT4 : u_T := fun k => match k with
  | 0 => ("RepairBarrows$Planner", "jobs", "[LRepairBarrows$Job;", true)
  | 1 => ("RepairBarrows$Planner", "isChosen", "[Z", true)
  | 2 => ("RepairBarrows$Planner", "order", "[I", true)
  | 3 => ("RepairBarrows$Planner", "finishes", "[I", true)
  | 4 => ("RepairBarrows$Planner", "hasBest", "Z", false)
  | 5 => ("RepairBarrows$Planner", "best", "I", false)
  | 6 => ("RepairBarrows$Planner", "bestOrder", "[I", true)
  | 7 => ("RepairBarrows$Planner", "bestFinishes", "[I", true)
  | _ => ("RepairBarrows$Planner", "count", "I", false)
def gY4 : Nat → FieldType := fun k => match k with
  | 0 => (.array (.object "RepairBarrows$Job"))
  | 1 => (.array .boolean)
  | 2 => (.array .int)
  | 3 => (.array .int)
  | 4 => .boolean
  | 5 => .int
  | 6 => (.array .int)
  | 7 => (.array .int)
  | _ => .int
def gR5 : String := "RepairBarrows$Program"
def gT5 : u_T := fun k => match k with
  | 0 => ("RepairBarrows$Program", "text", "[C", true)
  | 1 => ("RepairBarrows$Program", "length", "I", false)
  | 2 => ("RepairBarrows$Program", "at", "I", false)
  | 3 => ("RepairBarrows$Program", "commands", "[LRepairBarrows$Command;", true)
  | _ => ("RepairBarrows$Program", "count", "I", false)
def gY5 : Nat → FieldType := fun k => match k with
  | 0 => (.array .char)
  | 1 => .int
  | 2 => .int
  | 3 => (.array (.object "RepairBarrows$Command"))
  | _ => .int
def gR6 : String := "RepairBarrows$State"
def gT6 : u_T := fun k => match k with
  | 0 => ("RepairBarrows$State", "jobs", "[LRepairBarrows$Job;", true)
  | 1 => ("RepairBarrows$State", "openJobs", "I", false)
  | 2 => ("RepairBarrows$State", "nextNumber", "I", false)
  | 3 => ("RepairBarrows$State", "barrows", "[LRepairBarrows$Barrow;", true)
  | 4 => ("RepairBarrows$State", "stock", "[I", true)
  | 5 => ("RepairBarrows$State", "holders", "[I", true)
  | 6 => ("RepairBarrows$State", "repairedJobs", "I", false)
  | 7 => ("RepairBarrows$State", "hoursOfWork", "J", false)
  | _ => ("RepairBarrows$State", "hoursOfLateness", "J", false)
def gY6 : Nat → FieldType := fun k => match k with
  | 0 => (.array (.object "RepairBarrows$Job"))
  | 1 => .int
  | 2 => .int
  | 3 => (.array (.object "RepairBarrows$Barrow"))
  | 4 => (.array .int)
  | 5 => (.array .int)
  | 6 => .int
  | 7 => .long
  | _ => .long
def gR7 : String := "RepairBarrows"
def gT7 : u_T := fun k => match k with
  | 0 => ("RepairBarrows", "now", "LRepairBarrows$State;", true)
  | 1 => ("RepairBarrows", "saved", "LRepairBarrows$State;", true)
  | 2 => ("RepairBarrows", "hasSaved", "Z", false)
  | 3 => ("RepairBarrows", "history", "LRepairBarrows$History;", true)
  | 4 => ("RepairBarrows", "planner", "LRepairBarrows$Planner;", true)
  | 5 => ("RepairBarrows", "program", "LRepairBarrows$Program;", true)
  | 6 => ("RepairBarrows", "line", "Ljava/lang/StringBuilder;", true)
  | 7 => ("RepairBarrows", "lastError", "I", false)
  | _ => ("RepairBarrows", "lastFailure", "I", false)
def gY7 : Nat → FieldType := fun k => match k with
  | 0 => (.object "RepairBarrows$State")
  | 1 => (.object "RepairBarrows$State")
  | 2 => .boolean
  | 3 => (.object "RepairBarrows$History")
  | 4 => (.object "RepairBarrows$Planner")
  | 5 => (.object "RepairBarrows$Program")
  | 6 => (.object "java/lang/StringBuilder")
  | 7 => .int
  | _ => .int
def gR8 : String := "RepairBarrowsModel"
def gT8 : u_T := fun k => match k with
  | 0 => ("RepairBarrowsModel", "now", "[I", true)
  | 1 => ("RepairBarrowsModel", "before", "[I", true)
  | 2 => ("RepairBarrowsModel", "saved", "[I", true)
  | 3 => ("RepairBarrowsModel", "history", "[I", true)
  | 4 => ("RepairBarrowsModel", "order", "[I", true)
  | 5 => ("RepairBarrowsModel", "best", "[I", true)
  | 6 => ("RepairBarrowsModel", "thrown", "I", false)
  | 7 => ("RepairBarrowsModel", "depth", "I", false)
  | 8 => ("RepairBarrowsModel", "wrongAt", "I", false)
  | 9 => ("RepairBarrowsModel", "failedAt", "I", false)
  | 10 => ("RepairBarrowsModel", "planSize", "I", false)
  | 11 => ("RepairBarrowsModel", "bestLate", "I", false)
  | 12 => ("RepairBarrowsModel", "isSaved", "Z", false)
  | 13 => ("RepairBarrowsModel", "output", "[I", true)
  | 14 => ("RepairBarrowsModel", "outputLength", "I", false)
  | 15 => ("RepairBarrowsModel", "input", "[I", true)
  | 16 => ("RepairBarrowsModel", "kinds", "[I", true)
  | 17 => ("RepairBarrowsModel", "arguments", "[I", true)
  | 18 => ("RepairBarrowsModel", "length", "I", false)
  | 19 => ("RepairBarrowsModel", "programLength", "I", false)
  | 20 => ("RepairBarrowsModel", "at", "I", false)
  | 21 => ("RepairBarrowsModel", "commands", "I", false)
  | _ => ("RepairBarrowsModel", "isWrong", "Z", false)
def gY8 : Nat → FieldType := fun k => match k with
  | 0 => (.array .int)
  | 1 => (.array .int)
  | 2 => (.array .int)
  | 3 => (.array .int)
  | 4 => (.array .int)
  | 5 => (.array .int)
  | 6 => .int
  | 7 => .int
  | 8 => .int
  | 9 => .int
  | 10 => .int
  | 11 => .int
  | 12 => .boolean
  | 13 => (.array .int)
  | 14 => .int
  | 15 => (.array .int)
  | 16 => (.array .int)
  | 17 => (.array .int)
  | 18 => .int
  | 19 => .int
  | 20 => .int
  | 21 => .int
  | _ => .boolean
def gR9 : String := "java/lang/StringBuilder"
def gT9 : u_T := fun k => match k with
  | 0 => ("java/lang/AbstractStringBuilder", "value", "[B", false)
  | 1 => ("java/lang/AbstractStringBuilder", "coder", "B", false)
  | 2 => ("java/lang/AbstractStringBuilder", "maybeLatin1", "Z", false)
  | _ => ("java/lang/AbstractStringBuilder", "count", "I", false)
def gY9 : Nat → FieldType := fun k => match k with
  | 0 => (.array .byte)
  | 1 => .byte
  | 2 => .boolean
  | _ => .int
def gR10 : String := "java/lang/String"
def gT10 : u_T := fun k => match k with
  | 0 => ("java/lang/String", "value", "[B", true)
  | _ => ("java/lang/String", "coder", "B", true)
def gY10 : Nat → FieldType := fun k => match k with
  | 0 => (.array .byte)
  | _ => .byte
def gR11 : String := "RepairBarrows$Verb"
def gT11 : u_T := fun k => match k with
  | 0 => ("java/lang/Enum", "ordinal", "I", true)
  | _ => ("RepairBarrows$Verb", "shape", "Ljava/lang/String;", true)
def gY11 : Nat → FieldType := fun k => match k with
  | 0 => .int
  | _ => (.object "java/lang/String")
def gC : List vw_C := [(gR0, gT0, 5), (gR1, gT1, 2), (gR2, gT2, 3), (gR3, gT3, 8), (gR4, gT4, 9), (gR5, gT5, 5), (gR6, gT6, 9), (gR7, gT7, 9), (gR8, gT8, 23), (gR9, gT9, 4), (gR10, gT10, 2), (gR11, gT11, 2)]
def gY : List (Nat → FieldType) := [gY0, gY1, gY2, gY3, gY4, gY5, gY6, gY7, gY8, gY9, gY10, gY11]
def gO : List String := ["RepairBarrows$Barrow", "RepairBarrows$Command", "RepairBarrows$History", "RepairBarrows$Job", "RepairBarrows$Planner", "RepairBarrows$Program", "RepairBarrows$State", "RepairBarrows", "RepairBarrowsModel", "RepairBarrowsLaw", "java/lang/Object", "java/lang/AbstractStringBuilder", "java/lang/StringBuilder", "java/lang/String", "java/lang/StringLatin1", "java/lang/Integer", "java/lang/Math", "java/lang/Enum", "java/util/Arrays", "jdk/internal/util/ArraysSupport", "jdk/internal/util/Preconditions"]
abbrev gM : Type := MethodName × ByteArray × Nat × Option FieldType × Nat × List (Nat × Nat × Nat × Nat × String)
abbrev mBarrow_init : Nat := 0
def gm0 : gM := (⟨"RepairBarrows$Barrow", "<init>", "()V"⟩, prog_3_method_1_code, 1, none, 0, [])
abbrev mBarrow_countParts : Nat := 1
def gm1 : gM := (⟨"RepairBarrows$Barrow", "countParts", "()I"⟩, prog_3_method_4_code, 6, (some .int), 0, [])
abbrev mBarrow_copyFrom : Nat := 2
def gm2 : gM := (⟨"RepairBarrows$Barrow", "copyFrom", "(LRepairBarrows$Barrow;)V"⟩, prog_3_method_2_code, 2, none, 0, [])
abbrev mBarrow_isAtShed : Nat := 3
def gm3 : gM := (⟨"RepairBarrows$Barrow", "isAtShed", "()Z"⟩, prog_3_method_3_code, 1, (some .boolean), 0, [])
abbrev mBarrow_finishOf : Nat := 4
def gm4 : gM := (⟨"RepairBarrows$Barrow", "finishOf", "(LRepairBarrows$Job;)I"⟩, prog_3_method_6_code, 2, (some .int), 0, [])
abbrev mBarrow_usePart : Nat := 5
def gm5 : gM := (⟨"RepairBarrows$Barrow", "usePart", "(I)V"⟩, prog_3_method_5_code, 2, none, 0, [])
abbrev mBarrow_ranksBefore : Nat := 6
def gm6 : gM := (⟨"RepairBarrows$Barrow", "ranksBefore", "(LRepairBarrows$Barrow;)Z"⟩, prog_3_method_7_code, 2, (some .boolean), 0, [])
abbrev mCommand_init : Nat := 7
def gm7 : gM := (⟨"RepairBarrows$Command", "<init>", "()V"⟩, prog_4_method_1_code, 1, none, 1, [])
abbrev mHistory_init : Nat := 8
def gm8 : gM := (⟨"RepairBarrows$History", "<init>", "()V"⟩, prog_5_method_1_code, 2, none, 2, [])
abbrev mHistory_prepare : Nat := 9
def gm9 : gM := (⟨"RepairBarrows$History", "prepare", "(LRepairBarrows$State;)V"⟩, prog_5_method_2_code, 2, none, 2, [])
abbrev mHistory_confirm : Nat := 10
def gm10 : gM := (⟨"RepairBarrows$History", "confirm", "()V"⟩, prog_5_method_3_code, 1, none, 2, [])
abbrev mHistory_abandon : Nat := 11
def gm11 : gM := (⟨"RepairBarrows$History", "abandon", "(LRepairBarrows$State;)V"⟩, prog_5_method_4_code, 2, none, 2, [])
abbrev mHistory_takeBack : Nat := 12
def gm12 : gM := (⟨"RepairBarrows$History", "takeBack", "(LRepairBarrows$State;)V"⟩, prog_5_method_5_code, 2, none, 2, [])
abbrev mHistory_forget : Nat := 13
def gm13 : gM := (⟨"RepairBarrows$History", "forget", "()V"⟩, prog_5_method_6_code, 1, none, 2, [])
abbrev mJob_init : Nat := 14
def gm14 : gM := (⟨"RepairBarrows$Job", "<init>", "()V"⟩, prog_6_method_1_code, 1, none, 3, [])
abbrev mJob_copyFrom : Nat := 15
def gm15 : gM := (⟨"RepairBarrows$Job", "copyFrom", "(LRepairBarrows$Job;)V"⟩, prog_6_method_2_code, 2, none, 3, [])
abbrev mJob_finishFrom : Nat := 16
def gm16 : gM := (⟨"RepairBarrows$Job", "finishFrom", "(III)I"⟩, prog_6_method_3_code, 4, (some .int), 3, [])
abbrev mJob_latenessAt : Nat := 17
def gm17 : gM := (⟨"RepairBarrows$Job", "latenessAt", "(I)I"⟩, prog_6_method_4_code, 2, (some .int), 3, [])
abbrev mJob_isDueBefore : Nat := 18
def gm18 : gM := (⟨"RepairBarrows$Job", "isDueBefore", "(LRepairBarrows$Job;)Z"⟩, prog_6_method_5_code, 2, (some .boolean), 3, [])
abbrev mPlanner_init : Nat := 19
def gm19 : gM := (⟨"RepairBarrows$Planner", "<init>", "()V"⟩, prog_7_method_1_code, 2, none, 4, [])
abbrev mPlanner_leastByRecursion : Nat := 20
def gm20 : gM := (⟨"RepairBarrows$Planner", "leastByRecursion", "(LRepairBarrows$State;I)I"⟩, prog_7_method_2_code, 4, (some .int), 4, [])
abbrev mPlanner_collect : Nat := 21
def gm21 : gM := (⟨"RepairBarrows$Planner", "collect", "(LRepairBarrows$State;I)V"⟩, prog_7_method_4_code, 4, none, 4, [])
abbrev mPlanner_choose : Nat := 22
def gm22 : gM := (⟨"RepairBarrows$Planner", "choose", "(IIIII)V"⟩, prog_7_method_5_code, 9, none, 4, [])
abbrev mPlanner_keepIfBetter : Nat := 23
def gm23 : gM := (⟨"RepairBarrows$Planner", "keepIfBetter", "(I)V"⟩, prog_7_method_6_code, 2, none, 4, [])
abbrev mPlanner_leastByOrders : Nat := 24
def gm24 : gM := (⟨"RepairBarrows$Planner", "leastByOrders", "(LRepairBarrows$State;I)I"⟩, prog_7_method_3_code, 5, (some .int), 4, [])
abbrev mPlanner_latenessInOrder : Nat := 25
def gm25 : gM := (⟨"RepairBarrows$Planner", "latenessInOrder", "(LRepairBarrows$Barrow;)I"⟩, prog_7_method_7_code, 8, (some .int), 4, [])
abbrev mPlanner_goToNextOrder : Nat := 26
def gm26 : gM := (⟨"RepairBarrows$Planner", "goToNextOrder", "()Z"⟩, prog_7_method_8_code, 5, (some .boolean), 4, [])
abbrev mPlanner_swap : Nat := 27
def gm27 : gM := (⟨"RepairBarrows$Planner", "swap", "(II)V"⟩, prog_7_method_9_code, 4, none, 4, [])
abbrev mProgram_init : Nat := 28
def gm28 : gM := (⟨"RepairBarrows$Program", "<init>", "()V"⟩, prog_8_method_1_code, 2, none, 5, [])
abbrev mProgram_isFull : Nat := 29
def gm29 : gM := (⟨"RepairBarrows$Program", "isFull", "()Z"⟩, prog_8_method_2_code, 1, (some .boolean), 5, [])
abbrev mProgram_append : Nat := 30
def gm30 : gM := (⟨"RepairBarrows$Program", "append", "(C)I"⟩, prog_8_method_3_code, 2, (some .int), 5, [])
abbrev mProgram_parse : Nat := 31
def gm31 : gM := (⟨"RepairBarrows$Program", "parse", "()I"⟩, prog_8_method_5_code, 2, (some .int), 5, [])
abbrev mProgram_readCommand : Nat := 32
def gm32 : gM := (⟨"RepairBarrows$Program", "readCommand", "(LRepairBarrows$Command;)Z"⟩, prog_8_method_6_code, 8, (some .boolean), 5, [])
abbrev mProgram_readShape : Nat := 33
def gm33 : gM := (⟨"RepairBarrows$Program", "readShape", "(Ljava/lang/String;[I)Z"⟩, prog_8_method_7_code, 7, (some .boolean), 5, [])
abbrev mProgram_readArgument : Nat := 34
def gm34 : gM := (⟨"RepairBarrows$Program", "readArgument", "(C)I"⟩, prog_8_method_8_code, 2, (some .int), 5, [])
abbrev mProgram_readNumber : Nat := 35
def gm35 : gM := (⟨"RepairBarrows$Program", "readNumber", "()I"⟩, prog_8_method_9_code, 4, (some .int), 5, [])
abbrev mProgram_readDigit : Nat := 36
def gm36 : gM := (⟨"RepairBarrows$Program", "readDigit", "()I"⟩, prog_8_method_10_code, 2, (some .int), 5, [])
abbrev mProgram_readKind : Nat := 37
def gm37 : gM := (⟨"RepairBarrows$Program", "readKind", "()I"⟩, prog_8_method_11_code, 2, (some .int), 5, [])
abbrev mProgram_readSign : Nat := 38
def gm38 : gM := (⟨"RepairBarrows$Program", "readSign", "(C)Z"⟩, prog_8_method_12_code, 2, (some .boolean), 5, [])
abbrev mProgram_empty : Nat := 39
def gm39 : gM := (⟨"RepairBarrows$Program", "empty", "()V"⟩, prog_8_method_4_code, 1, none, 5, [])
abbrev mState_init : Nat := 40
def gm40 : gM := (⟨"RepairBarrows$State", "<init>", "()V"⟩, prog_9_method_1_code, 2, none, 6, [])
abbrev mState_findJob : Nat := 41
def gm41 : gM := (⟨"RepairBarrows$State", "findJob", "(I)LRepairBarrows$Job;"⟩, prog_9_method_14_code, 3, (some (.object "RepairBarrows$Job")), 6, [])
abbrev mState_countAssigned : Nat := 42
def gm42 : gM := (⟨"RepairBarrows$State", "countAssigned", "(I)I"⟩, prog_9_method_18_code, 4, (some .int), 6, [])
abbrev mState_copyFrom : Nat := 43
def gm43 : gM := (⟨"RepairBarrows$State", "copyFrom", "(LRepairBarrows$State;)V"⟩, prog_9_method_2_code, 3, none, 6, [])
abbrev mState_enterJob : Nat := 44
def gm44 : gM := (⟨"RepairBarrows$State", "enterJob", "(IIIIII)I"⟩, prog_9_method_3_code, 8, (some .int), 6, [])
abbrev mState_dropJob : Nat := 45
def gm45 : gM := (⟨"RepairBarrows$State", "dropJob", "(I)I"⟩, prog_9_method_4_code, 3, (some .int), 6, [])
abbrev mState_close : Nat := 46
def gm46 : gM := (⟨"RepairBarrows$State", "close", "(LRepairBarrows$Job;)V"⟩, prog_9_method_15_code, 4, none, 6, [])
abbrev mState_handJob : Nat := 47
def gm47 : gM := (⟨"RepairBarrows$State", "handJob", "(II)I"⟩, prog_9_method_5_code, 4, (some .int), 6, [])
abbrev mState_withdrawJob : Nat := 48
def gm48 : gM := (⟨"RepairBarrows$State", "withdrawJob", "(I)I"⟩, prog_9_method_6_code, 4, (some .int), 6, [])
abbrev mState_fillStock : Nat := 49
def gm49 : gM := (⟨"RepairBarrows$State", "fillStock", "(II)I"⟩, prog_9_method_7_code, 3, (some .int), 6, [])
abbrev mState_loadParts : Nat := 50
def gm50 : gM := (⟨"RepairBarrows$State", "loadParts", "(III)I"⟩, prog_9_method_8_code, 5, (some .int), 6, [])
abbrev mState_lendTool : Nat := 51
def gm51 : gM := (⟨"RepairBarrows$State", "lendTool", "(II)I"⟩, prog_9_method_9_code, 3, (some .int), 6, [])
abbrev mState_countTools : Nat := 52
def gm52 : gM := (⟨"RepairBarrows$State", "countTools", "(I)I"⟩, prog_9_method_19_code, 7, (some .int), 6, [])
abbrev mState_returnTool : Nat := 53
def gm53 : gM := (⟨"RepairBarrows$State", "returnTool", "(II)I"⟩, prog_9_method_10_code, 3, (some .int), 6, [])
abbrev mState_fixJob : Nat := 54
def gm54 : gM := (⟨"RepairBarrows$State", "fixJob", "(II)I"⟩, prog_9_method_11_code, 7, (some .int), 6, [])
abbrev mState_hasTool : Nat := 55
def gm55 : gM := (⟨"RepairBarrows$State", "hasTool", "(ILRepairBarrows$Job;)Z"⟩, prog_9_method_20_code, 3, (some .boolean), 6, [])
abbrev mState_hasPart : Nat := 56
def gm56 : gM := (⟨"RepairBarrows$State", "hasPart", "(ILRepairBarrows$Job;)Z"⟩, prog_9_method_21_code, 3, (some .boolean), 6, [])
abbrev mState_driveHome : Nat := 57
def gm57 : gM := (⟨"RepairBarrows$State", "driveHome", "(I)I"⟩, prog_9_method_12_code, 3, (some .int), 6, [])
abbrev mState_pause : Nat := 58
def gm58 : gM := (⟨"RepairBarrows$State", "pause", "(II)I"⟩, prog_9_method_13_code, 3, (some .int), 6, [])
abbrev mState_dueRank : Nat := 59
def gm59 : gM := (⟨"RepairBarrows$State", "dueRank", "(LRepairBarrows$Job;)I"⟩, prog_9_method_16_code, 4, (some .int), 6, [])
abbrev mState_earningsRank : Nat := 60
def gm60 : gM := (⟨"RepairBarrows$State", "earningsRank", "(I)I"⟩, prog_9_method_17_code, 5, (some .int), 6, [])
abbrev mMain_init : Nat := 61
def gm61 : gM := (⟨"RepairBarrows", "<init>", "()V"⟩, prog_1_method_1_code, 1, none, 7, [])
abbrev mMain_jobs : Nat := 62
def gm62 : gM := (⟨"RepairBarrows", "jobs", "()I"⟩, prog_1_method_13_code, 1, (some .int), 7, [])
abbrev mMain_isOpen : Nat := 63
def gm63 : gM := (⟨"RepairBarrows", "isOpen", "(I)Z"⟩, prog_1_method_14_code, 2, (some .boolean), 7, [])
abbrev mMain_totalEarnings : Nat := 64
def gm64 : gM := (⟨"RepairBarrows", "totalEarnings", "()J"⟩, prog_1_method_36_code, 7, (some .long), 7, [])
abbrev mMain_totalEarningsByHours : Nat := 65
def gm65 : gM := (⟨"RepairBarrows", "totalEarningsByHours", "()J"⟩, prog_1_method_37_code, 1, (some .long), 7, [])
abbrev mMain_repaired : Nat := 66
def gm66 : gM := (⟨"RepairBarrows", "repaired", "()I"⟩, prog_1_method_38_code, 1, (some .int), 7, [])
abbrev mMain_borrowedShare : Nat := 67
def gm67 : gM := (⟨"RepairBarrows", "borrowedShare", "()F"⟩, prog_1_method_40_code, 6, (some .float), 7, [])
abbrev mMain_isConsistent : Nat := 68
def gm68 : gM := (⟨"RepairBarrows", "isConsistent", "()Z"⟩, prog_1_method_42_code, 2, (some .boolean), 7, [])
abbrev mMain_isBarrow : Nat := 69
def gm69 : gM := (⟨"RepairBarrows", "isBarrow", "(I)Z"⟩, prog_1_method_63_code, 1, (some .boolean), 7, [])
abbrev mMain_distance : Nat := 70
def gm70 : gM := (⟨"RepairBarrows", "distance", "(IIII)I"⟩, prog_1_method_65_code, 4, (some .int), 7, [])
abbrev mMain_save : Nat := 71
def gm71 : gM := (⟨"RepairBarrows", "save", "()I"⟩, prog_1_method_51_code, 1, (some .int), 7, [])
abbrev mMain_addJob : Nat := 72
def gm72 : gM := (⟨"RepairBarrows", "addJob", "(IICIII)I"⟩, prog_1_method_2_code, 7, (some .int), 7, [])
abbrev mMain_kindIndex : Nat := 73
def gm73 : gM := (⟨"RepairBarrows", "kindIndex", "(C)I"⟩, prog_1_method_59_code, 1, (some .int), 7, [])
abbrev mMain_isCoordinate : Nat := 74
def gm74 : gM := (⟨"RepairBarrows", "isCoordinate", "(I)Z"⟩, prog_1_method_64_code, 1, (some .boolean), 7, [])
abbrev mMain_isKind : Nat := 75
def gm75 : gM := (⟨"RepairBarrows", "isKind", "(I)Z"⟩, prog_1_method_61_code, 1, (some .boolean), 7, [])
abbrev mMain_isTool : Nat := 76
def gm76 : gM := (⟨"RepairBarrows", "isTool", "(I)Z"⟩, prog_1_method_62_code, 1, (some .boolean), 7, [])
abbrev mMain_settle : Nat := 77
def gm77 : gM := (⟨"RepairBarrows", "settle", "(I)I"⟩, prog_1_method_53_code, 2, (some .int), 7, [])
abbrev mMain_cancelJob : Nat := 78
def gm78 : gM := (⟨"RepairBarrows", "cancelJob", "(I)I"⟩, prog_1_method_3_code, 2, (some .int), 7, [])
abbrev mMain_assign : Nat := 79
def gm79 : gM := (⟨"RepairBarrows", "assign", "(II)I"⟩, prog_1_method_4_code, 3, (some .int), 7, [])
abbrev mMain_unassign : Nat := 80
def gm80 : gM := (⟨"RepairBarrows", "unassign", "(I)I"⟩, prog_1_method_5_code, 2, (some .int), 7, [])
abbrev mMain_addStock : Nat := 81
def gm81 : gM := (⟨"RepairBarrows", "addStock", "(CI)I"⟩, prog_1_method_6_code, 3, (some .int), 7, [])
abbrev mMain_load : Nat := 82
def gm82 : gM := (⟨"RepairBarrows", "load", "(ICI)I"⟩, prog_1_method_7_code, 4, (some .int), 7, [])
abbrev mMain_borrow : Nat := 83
def gm83 : gM := (⟨"RepairBarrows", "borrow", "(II)I"⟩, prog_1_method_8_code, 3, (some .int), 7, [])
abbrev mMain_giveBack : Nat := 84
def gm84 : gM := (⟨"RepairBarrows", "giveBack", "(II)I"⟩, prog_1_method_9_code, 3, (some .int), 7, [])
abbrev mMain_repair : Nat := 85
def gm85 : gM := (⟨"RepairBarrows", "repair", "(II)I"⟩, prog_1_method_10_code, 3, (some .int), 7, [])
abbrev mMain_goHome : Nat := 86
def gm86 : gM := (⟨"RepairBarrows", "goHome", "(I)I"⟩, prog_1_method_11_code, 2, (some .int), 7, [])
abbrev mMain_rest : Nat := 87
def gm87 : gM := (⟨"RepairBarrows", "rest", "(II)I"⟩, prog_1_method_12_code, 3, (some .int), 7, [])
abbrev mMain_kind : Nat := 88
def gm88 : gM := (⟨"RepairBarrows", "kind", "(I)C"⟩, prog_1_method_15_code, 2, (some .char), 7, [])
abbrev mMain_openJob : Nat := 89
def gm89 : gM := (⟨"RepairBarrows", "openJob", "(I)LRepairBarrows$Job;"⟩, prog_1_method_57_code, 3, (some (.object "RepairBarrows$Job")), 7, [])
abbrev mMain_kindLetter : Nat := 90
def gm90 : gM := (⟨"RepairBarrows", "kindLetter", "(I)C"⟩, prog_1_method_60_code, 1, (some .char), 7, [])
abbrev mMain_tool : Nat := 91
def gm91 : gM := (⟨"RepairBarrows", "tool", "(I)I"⟩, prog_1_method_16_code, 2, (some .int), 7, [])
abbrev mMain_due : Nat := 92
def gm92 : gM := (⟨"RepairBarrows", "due", "(I)I"⟩, prog_1_method_17_code, 2, (some .int), 7, [])
abbrev mMain_barrowOf : Nat := 93
def gm93 : gM := (⟨"RepairBarrows", "barrowOf", "(I)I"⟩, prog_1_method_18_code, 3, (some .int), 7, [])
abbrev mMain_jobByDue : Nat := 94
def gm94 : gM := (⟨"RepairBarrows", "jobByDue", "(I)I"⟩, prog_1_method_19_code, 4, (some .int), 7, [])
abbrev mMain_stock : Nat := 95
def gm95 : gM := (⟨"RepairBarrows", "stock", "(C)I"⟩, prog_1_method_20_code, 2, (some .int), 7, [])
abbrev mMain_checkedKind : Nat := 96
def gm96 : gM := (⟨"RepairBarrows", "checkedKind", "(C)I"⟩, prog_1_method_58_code, 2, (some .int), 7, [])
abbrev mMain_parts : Nat := 97
def gm97 : gM := (⟨"RepairBarrows", "parts", "(IC)I"⟩, prog_1_method_21_code, 4, (some .int), 7, [])
abbrev mMain_checkedBarrow : Nat := 98
def gm98 : gM := (⟨"RepairBarrows", "checkedBarrow", "(I)LRepairBarrows$Barrow;"⟩, prog_1_method_56_code, 2, (some (.object "RepairBarrows$Barrow")), 7, [])
abbrev mMain_tools : Nat := 99
def gm99 : gM := (⟨"RepairBarrows", "tools", "(I)I"⟩, prog_1_method_22_code, 2, (some .int), 7, [])
abbrev mMain_holder : Nat := 100
def gm100 : gM := (⟨"RepairBarrows", "holder", "(I)I"⟩, prog_1_method_23_code, 3, (some .int), 7, [])
abbrev mMain_barrowX : Nat := 101
def gm101 : gM := (⟨"RepairBarrows", "barrowX", "(I)I"⟩, prog_1_method_24_code, 2, (some .int), 7, [])
abbrev mMain_barrowY : Nat := 102
def gm102 : gM := (⟨"RepairBarrows", "barrowY", "(I)I"⟩, prog_1_method_25_code, 2, (some .int), 7, [])
abbrev mMain_clock : Nat := 103
def gm103 : gM := (⟨"RepairBarrows", "clock", "(I)I"⟩, prog_1_method_26_code, 2, (some .int), 7, [])
abbrev mMain_isHome : Nat := 104
def gm104 : gM := (⟨"RepairBarrows", "isHome", "(I)Z"⟩, prog_1_method_27_code, 2, (some .boolean), 7, [])
abbrev mMain_assigned : Nat := 105
def gm105 : gM := (⟨"RepairBarrows", "assigned", "(I)I"⟩, prog_1_method_28_code, 2, (some .int), 7, [])
abbrev mMain_canRepair : Nat := 106
def gm106 : gM := (⟨"RepairBarrows", "canRepair", "(II)Z"⟩, prog_1_method_29_code, 4, (some .boolean), 7, [])
abbrev mMain_finish : Nat := 107
def gm107 : gM := (⟨"RepairBarrows", "finish", "(II)I"⟩, prog_1_method_30_code, 4, (some .int), 7, [])
abbrev mMain_fastestBarrow : Nat := 108
def gm108 : gM := (⟨"RepairBarrows", "fastestBarrow", "(I)I"⟩, prog_1_method_31_code, 5, (some .int), 7, [])
abbrev mMain_bestLateness : Nat := 109
def gm109 : gM := (⟨"RepairBarrows", "bestLateness", "(I)I"⟩, prog_1_method_32_code, 2, (some .int), 7, [])
abbrev mMain_bestLatenessByOrders : Nat := 110
def gm110 : gM := (⟨"RepairBarrows", "bestLatenessByOrders", "(I)I"⟩, prog_1_method_33_code, 2, (some .int), 7, [])
abbrev mMain_planned : Nat := 111
def gm111 : gM := (⟨"RepairBarrows", "planned", "(II)I"⟩, prog_1_method_34_code, 3, (some .int), 7, [])
abbrev mMain_earnings : Nat := 112
def gm112 : gM := (⟨"RepairBarrows", "earnings", "(I)I"⟩, prog_1_method_35_code, 2, (some .int), 7, [])
abbrev mMain_meanLateness : Nat := 113
def gm113 : gM := (⟨"RepairBarrows", "meanLateness", "()D"⟩, prog_1_method_39_code, 1, (some .double), 7, [])
abbrev mMain_barrowByEarnings : Nat := 114
def gm114 : gM := (⟨"RepairBarrows", "barrowByEarnings", "(I)I"⟩, prog_1_method_41_code, 3, (some .int), 7, [])
abbrev mMain_writeBarrow : Nat := 115
def gm115 : gM := (⟨"RepairBarrows", "writeBarrow", "(I)I"⟩, prog_1_method_43_code, 4, (some .int), 7, [])
abbrev mMain_writePlan : Nat := 116
def gm116 : gM := (⟨"RepairBarrows", "writePlan", "(I)I"⟩, prog_1_method_44_code, 3, (some .int), 7, [])
abbrev mMain_charAt : Nat := 117
def gm117 : gM := (⟨"RepairBarrows", "charAt", "(I)C"⟩, prog_1_method_45_code, 2, (some .char), 7, [])
abbrev mMain_type : Nat := 118
def gm118 : gM := (⟨"RepairBarrows", "type", "(C)I"⟩, prog_1_method_46_code, 2, (some .int), 7, [])
abbrev mMain_run : Nat := 119
def gm119 : gM := (⟨"RepairBarrows", "run", "()I"⟩, prog_1_method_47_code, 3, (some .int), 7, [])
abbrev mMain_firstFailure : Nat := 120
def gm120 : gM := (⟨"RepairBarrows", "firstFailure", "()I"⟩, prog_1_method_54_code, 2, (some .int), 7, [])
abbrev mMain_execute : Nat := 121
def gm121 : gM := (⟨"RepairBarrows", "execute", "(LRepairBarrows$Command;)I"⟩, prog_1_method_55_code, 3, (some .int), 7, [])
abbrev mMain_errorPosition : Nat := 122
def gm122 : gM := (⟨"RepairBarrows", "errorPosition", "()I"⟩, prog_1_method_48_code, 1, (some .int), 7, [])
abbrev mMain_failedCommand : Nat := 123
def gm123 : gM := (⟨"RepairBarrows", "failedCommand", "()I"⟩, prog_1_method_49_code, 1, (some .int), 7, [])
abbrev mMain_undo : Nat := 124
def gm124 : gM := (⟨"RepairBarrows", "undo", "()I"⟩, prog_1_method_50_code, 1, (some .int), 7, [])
abbrev mMain_restore : Nat := 125
def gm125 : gM := (⟨"RepairBarrows", "restore", "()I"⟩, prog_1_method_52_code, 1, (some .int), 7, [])
abbrev mModel_init : Nat := 126
def gm126 : gM := (⟨"RepairBarrowsModel", "<init>", "()V"⟩, prog_12_method_1_code, 1, none, 8, [])
abbrev mModel_thrown : Nat := 127
def gm127 : gM := (⟨"RepairBarrowsModel", "thrown", "()I"⟩, prog_12_method_2_code, 1, (some .int), 8, [])
abbrev mModel_addJob : Nat := 128
def gm128 : gM := (⟨"RepairBarrowsModel", "addJob", "(IICIII)I"⟩, prog_12_method_17_code, 8, (some .int), 8, [])
abbrev mModel_begin : Nat := 129
def gm129 : gM := (⟨"RepairBarrowsModel", "begin", "()V"⟩, prog_12_method_6_code, 1, none, 8, [])
abbrev mModel_copy : Nat := 130
def gm130 : gM := (⟨"RepairBarrowsModel", "copy", "([II[II)V"⟩, prog_12_method_4_code, 5, none, 8, [])
abbrev mModel_cannotAdd : Nat := 131
def gm131 : gM := (⟨"RepairBarrowsModel", "cannotAdd", "(IIIIII)I"⟩, prog_12_method_15_code, 7, (some .int), 8, [])
abbrev mModel_in : Nat := 132
def gm132 : gM := (⟨"RepairBarrowsModel", "in", "(III)Z"⟩, prog_12_method_3_code, 3, (some .boolean), 8, [])
abbrev mModel_isKind : Nat := 133
def gm133 : gM := (⟨"RepairBarrowsModel", "isKind", "(I)Z"⟩, prog_12_method_13_code, 1, (some .boolean), 8, [])
abbrev mModel_isTool : Nat := 134
def gm134 : gM := (⟨"RepairBarrowsModel", "isTool", "(I)Z"⟩, prog_12_method_14_code, 1, (some .boolean), 8, [])
abbrev mModel_fail : Nat := 135
def gm135 : gM := (⟨"RepairBarrowsModel", "fail", "(I)I"⟩, prog_12_method_5_code, 2, (some .int), 8, [])
abbrev mModel_adds : Nat := 136
def gm136 : gM := (⟨"RepairBarrowsModel", "adds", "(IIIIII)I"⟩, prog_12_method_16_code, 8, (some .int), 8, [])
abbrev mModel_commit : Nat := 137
def gm137 : gM := (⟨"RepairBarrowsModel", "commit", "(I)I"⟩, prog_12_method_7_code, 3, (some .int), 8, [])
abbrev mModel_cancelJob : Nat := 138
def gm138 : gM := (⟨"RepairBarrowsModel", "cancelJob", "(I)I"⟩, prog_12_method_19_code, 2, (some .int), 8, [])
abbrev mModel_find : Nat := 139
def gm139 : gM := (⟨"RepairBarrowsModel", "find", "(I)I"⟩, prog_12_method_11_code, 3, (some .int), 8, [])
abbrev mModel_j : Nat := 140
def gm140 : gM := (⟨"RepairBarrowsModel", "j", "(II)I"⟩, prog_12_method_8_code, 3, (some .int), 8, [])
abbrev mModel_removes : Nat := 141
def gm141 : gM := (⟨"RepairBarrowsModel", "removes", "(I)I"⟩, prog_12_method_18_code, 3, (some .int), 8, [])
abbrev mModel_assign : Nat := 142
def gm142 : gM := (⟨"RepairBarrowsModel", "assign", "(II)I"⟩, prog_12_method_23_code, 4, (some .int), 8, [])
abbrev mModel_cannotAssign : Nat := 143
def gm143 : gM := (⟨"RepairBarrowsModel", "cannotAssign", "(II)I"⟩, prog_12_method_21_code, 3, (some .int), 8, [])
abbrev mModel_isBarrow : Nat := 144
def gm144 : gM := (⟨"RepairBarrowsModel", "isBarrow", "(I)Z"⟩, prog_12_method_12_code, 1, (some .boolean), 8, [])
abbrev mModel_givenTo : Nat := 145
def gm145 : gM := (⟨"RepairBarrowsModel", "givenTo", "(I)I"⟩, prog_12_method_20_code, 4, (some .int), 8, [])
abbrev mModel_assigns : Nat := 146
def gm146 : gM := (⟨"RepairBarrowsModel", "assigns", "(II)I"⟩, prog_12_method_22_code, 3, (some .int), 8, [])
abbrev mModel_unassign : Nat := 147
def gm147 : gM := (⟨"RepairBarrowsModel", "unassign", "(I)I"⟩, prog_12_method_26_code, 3, (some .int), 8, [])
abbrev mModel_cannotUnassign : Nat := 148
def gm148 : gM := (⟨"RepairBarrowsModel", "cannotUnassign", "(I)I"⟩, prog_12_method_24_code, 2, (some .int), 8, [])
abbrev mModel_unassigns : Nat := 149
def gm149 : gM := (⟨"RepairBarrowsModel", "unassigns", "(I)I"⟩, prog_12_method_25_code, 3, (some .int), 8, [])
abbrev mModel_addStock : Nat := 150
def gm150 : gM := (⟨"RepairBarrowsModel", "addStock", "(CI)I"⟩, prog_12_method_29_code, 4, (some .int), 8, [])
abbrev mModel_cannotStock : Nat := 151
def gm151 : gM := (⟨"RepairBarrowsModel", "cannotStock", "(II)I"⟩, prog_12_method_27_code, 3, (some .int), 8, [])
abbrev mModel_stocks : Nat := 152
def gm152 : gM := (⟨"RepairBarrowsModel", "stocks", "(II)I"⟩, prog_12_method_28_code, 3, (some .int), 8, [])
abbrev mModel_load : Nat := 153
def gm153 : gM := (⟨"RepairBarrowsModel", "load", "(ICI)I"⟩, prog_12_method_34_code, 5, (some .int), 8, [])
abbrev mModel_cannotLoad : Nat := 154
def gm154 : gM := (⟨"RepairBarrowsModel", "cannotLoad", "(III)I"⟩, prog_12_method_32_code, 4, (some .int), 8, [])
abbrev mModel_home : Nat := 155
def gm155 : gM := (⟨"RepairBarrowsModel", "home", "(I)Z"⟩, prog_12_method_30_code, 2, (some .boolean), 8, [])
abbrev mModel_w : Nat := 156
def gm156 : gM := (⟨"RepairBarrowsModel", "w", "(II)I"⟩, prog_12_method_9_code, 3, (some .int), 8, [])
abbrev mModel_allParts : Nat := 157
def gm157 : gM := (⟨"RepairBarrowsModel", "allParts", "(I)I"⟩, prog_12_method_31_code, 2, (some .int), 8, [])
abbrev mModel_loads : Nat := 158
def gm158 : gM := (⟨"RepairBarrowsModel", "loads", "(III)I"⟩, prog_12_method_33_code, 4, (some .int), 8, [])
abbrev mModel_setBarrow : Nat := 159
def gm159 : gM := (⟨"RepairBarrowsModel", "setBarrow", "(III)V"⟩, prog_12_method_10_code, 4, none, 8, [])
abbrev mModel_borrow : Nat := 160
def gm160 : gM := (⟨"RepairBarrowsModel", "borrow", "(II)I"⟩, prog_12_method_38_code, 4, (some .int), 8, [])
abbrev mModel_cannotHand : Nat := 161
def gm161 : gM := (⟨"RepairBarrowsModel", "cannotHand", "(III)I"⟩, prog_12_method_36_code, 4, (some .int), 8, [])
abbrev mModel_hands : Nat := 162
def gm162 : gM := (⟨"RepairBarrowsModel", "hands", "(III)I"⟩, prog_12_method_37_code, 4, (some .int), 8, [])
abbrev mModel_toolsIn : Nat := 163
def gm163 : gM := (⟨"RepairBarrowsModel", "toolsIn", "(I)I"⟩, prog_12_method_35_code, 4, (some .int), 8, [])
abbrev mModel_giveBack : Nat := 164
def gm164 : gM := (⟨"RepairBarrowsModel", "giveBack", "(II)I"⟩, prog_12_method_39_code, 4, (some .int), 8, [])
abbrev mModel_repair : Nat := 165
def gm165 : gM := (⟨"RepairBarrowsModel", "repair", "(II)I"⟩, prog_12_method_47_code, 4, (some .int), 8, [])
abbrev mModel_cannotRepair : Nat := 166
def gm166 : gM := (⟨"RepairBarrowsModel", "cannotRepair", "(II)I"⟩, prog_12_method_45_code, 3, (some .int), 8, [])
abbrev mModel_hasTool : Nat := 167
def gm167 : gM := (⟨"RepairBarrowsModel", "hasTool", "(II)Z"⟩, prog_12_method_43_code, 3, (some .boolean), 8, [])
abbrev mModel_hasPart : Nat := 168
def gm168 : gM := (⟨"RepairBarrowsModel", "hasPart", "(II)Z"⟩, prog_12_method_44_code, 3, (some .boolean), 8, [])
abbrev mModel_repairs : Nat := 169
def gm169 : gM := (⟨"RepairBarrowsModel", "repairs", "(II)I"⟩, prog_12_method_46_code, 7, (some .int), 8, [])
abbrev mModel_finishOf : Nat := 170
def gm170 : gM := (⟨"RepairBarrowsModel", "finishOf", "(II)I"⟩, prog_12_method_42_code, 3, (some .int), 8, [])
abbrev mModel_far : Nat := 171
def gm171 : gM := (⟨"RepairBarrowsModel", "far", "(II)I"⟩, prog_12_method_41_code, 3, (some .int), 8, [])
abbrev mModel_apart : Nat := 172
def gm172 : gM := (⟨"RepairBarrowsModel", "apart", "(II)I"⟩, prog_12_method_40_code, 2, (some .int), 8, [])
abbrev mModel_goHome : Nat := 173
def gm173 : gM := (⟨"RepairBarrowsModel", "goHome", "(I)I"⟩, prog_12_method_49_code, 2, (some .int), 8, [])
abbrev mModel_drivesHome : Nat := 174
def gm174 : gM := (⟨"RepairBarrowsModel", "drivesHome", "(I)I"⟩, prog_12_method_48_code, 2, (some .int), 8, [])
abbrev mModel_rest : Nat := 175
def gm175 : gM := (⟨"RepairBarrowsModel", "rest", "(II)I"⟩, prog_12_method_52_code, 4, (some .int), 8, [])
abbrev mModel_cannotRest : Nat := 176
def gm176 : gM := (⟨"RepairBarrowsModel", "cannotRest", "(II)I"⟩, prog_12_method_51_code, 2, (some .int), 8, [])
abbrev mModel_rests : Nat := 177
def gm177 : gM := (⟨"RepairBarrowsModel", "rests", "(II)I"⟩, prog_12_method_50_code, 3, (some .int), 8, [])
abbrev mModel_jobs : Nat := 178
def gm178 : gM := (⟨"RepairBarrowsModel", "jobs", "()I"⟩, prog_12_method_55_code, 1, (some .int), 8, [])
abbrev mModel_plain : Nat := 179
def gm179 : gM := (⟨"RepairBarrowsModel", "plain", "(I)I"⟩, prog_12_method_53_code, 2, (some .int), 8, [])
abbrev mModel_isOpen : Nat := 180
def gm180 : gM := (⟨"RepairBarrowsModel", "isOpen", "(I)Z"⟩, prog_12_method_56_code, 2, (some .boolean), 8, [])
abbrev mModel_kind : Nat := 181
def gm181 : gM := (⟨"RepairBarrowsModel", "kind", "(I)C"⟩, prog_12_method_58_code, 3, (some .char), 8, [])
abbrev mModel_ofJob : Nat := 182
def gm182 : gM := (⟨"RepairBarrowsModel", "ofJob", "(II)I"⟩, prog_12_method_57_code, 3, (some .int), 8, [])
abbrev mModel_checked : Nat := 183
def gm183 : gM := (⟨"RepairBarrowsModel", "checked", "(Z)I"⟩, prog_12_method_54_code, 2, (some .int), 8, [])
abbrev mModel_tool : Nat := 184
def gm184 : gM := (⟨"RepairBarrowsModel", "tool", "(I)I"⟩, prog_12_method_59_code, 2, (some .int), 8, [])
abbrev mModel_due : Nat := 185
def gm185 : gM := (⟨"RepairBarrowsModel", "due", "(I)I"⟩, prog_12_method_60_code, 2, (some .int), 8, [])
abbrev mModel_barrowOf : Nat := 186
def gm186 : gM := (⟨"RepairBarrowsModel", "barrowOf", "(I)I"⟩, prog_12_method_61_code, 3, (some .int), 8, [])
abbrev mModel_jobByDue : Nat := 187
def gm187 : gM := (⟨"RepairBarrowsModel", "jobByDue", "(I)I"⟩, prog_12_method_62_code, 5, (some .int), 8, [])
abbrev mModel_stock : Nat := 188
def gm188 : gM := (⟨"RepairBarrowsModel", "stock", "(C)I"⟩, prog_12_method_63_code, 2, (some .int), 8, [])
abbrev mModel_parts : Nat := 189
def gm189 : gM := (⟨"RepairBarrowsModel", "parts", "(IC)I"⟩, prog_12_method_64_code, 3, (some .int), 8, [])
abbrev mModel_tools : Nat := 190
def gm190 : gM := (⟨"RepairBarrowsModel", "tools", "(I)I"⟩, prog_12_method_65_code, 2, (some .int), 8, [])
abbrev mModel_holder : Nat := 191
def gm191 : gM := (⟨"RepairBarrowsModel", "holder", "(I)I"⟩, prog_12_method_66_code, 2, (some .int), 8, [])
abbrev mModel_barrowX : Nat := 192
def gm192 : gM := (⟨"RepairBarrowsModel", "barrowX", "(I)I"⟩, prog_12_method_68_code, 2, (some .int), 8, [])
abbrev mModel_ofBarrow : Nat := 193
def gm193 : gM := (⟨"RepairBarrowsModel", "ofBarrow", "(II)I"⟩, prog_12_method_67_code, 3, (some .int), 8, [])
abbrev mModel_barrowY : Nat := 194
def gm194 : gM := (⟨"RepairBarrowsModel", "barrowY", "(I)I"⟩, prog_12_method_69_code, 2, (some .int), 8, [])
abbrev mModel_clock : Nat := 195
def gm195 : gM := (⟨"RepairBarrowsModel", "clock", "(I)I"⟩, prog_12_method_70_code, 2, (some .int), 8, [])
abbrev mModel_isHome : Nat := 196
def gm196 : gM := (⟨"RepairBarrowsModel", "isHome", "(I)Z"⟩, prog_12_method_71_code, 2, (some .boolean), 8, [])
abbrev mModel_assigned : Nat := 197
def gm197 : gM := (⟨"RepairBarrowsModel", "assigned", "(I)I"⟩, prog_12_method_72_code, 2, (some .int), 8, [])
abbrev mModel_canRepair : Nat := 198
def gm198 : gM := (⟨"RepairBarrowsModel", "canRepair", "(II)Z"⟩, prog_12_method_74_code, 3, (some .boolean), 8, [])
abbrev mModel_isPair : Nat := 199
def gm199 : gM := (⟨"RepairBarrowsModel", "isPair", "(II)Z"⟩, prog_12_method_73_code, 3, (some .boolean), 8, [])
abbrev mModel_finish : Nat := 200
def gm200 : gM := (⟨"RepairBarrowsModel", "finish", "(II)I"⟩, prog_12_method_75_code, 3, (some .int), 8, [])
abbrev mModel_fastestBarrow : Nat := 201
def gm201 : gM := (⟨"RepairBarrowsModel", "fastestBarrow", "(I)I"⟩, prog_12_method_76_code, 4, (some .int), 8, [])
abbrev mModel_bestLateness : Nat := 202
def gm202 : gM := (⟨"RepairBarrowsModel", "bestLateness", "(I)I"⟩, prog_12_method_83_code, 2, (some .int), 8, [])
abbrev mModel_bestOf : Nat := 203
def gm203 : gM := (⟨"RepairBarrowsModel", "bestOf", "(I)I"⟩, prog_12_method_82_code, 2, (some .int), 8, [])
abbrev mModel_plans : Nat := 204
def gm204 : gM := (⟨"RepairBarrowsModel", "plans", "(I)V"⟩, prog_12_method_81_code, 3, none, 8, [])
abbrev mModel_lateness : Nat := 205
def gm205 : gM := (⟨"RepairBarrowsModel", "lateness", "(I)I"⟩, prog_12_method_77_code, 8, (some .int), 8, [])
abbrev mModel_keeps : Nat := 206
def gm206 : gM := (⟨"RepairBarrowsModel", "keeps", "(I)V"⟩, prog_12_method_80_code, 3, none, 8, [])
abbrev mModel_hasNextOrder : Nat := 207
def gm207 : gM := (⟨"RepairBarrowsModel", "hasNextOrder", "()Z"⟩, prog_12_method_79_code, 5, (some .boolean), 8, [])
abbrev mModel_swap : Nat := 208
def gm208 : gM := (⟨"RepairBarrowsModel", "swap", "(II)V"⟩, prog_12_method_78_code, 4, none, 8, [])
abbrev mModel_bestLatenessByOrders : Nat := 209
def gm209 : gM := (⟨"RepairBarrowsModel", "bestLatenessByOrders", "(I)I"⟩, prog_12_method_84_code, 2, (some .int), 8, [])
abbrev mModel_planned : Nat := 210
def gm210 : gM := (⟨"RepairBarrowsModel", "planned", "(II)I"⟩, prog_12_method_85_code, 3, (some .int), 8, [])
abbrev mModel_earnings : Nat := 211
def gm211 : gM := (⟨"RepairBarrowsModel", "earnings", "(I)I"⟩, prog_12_method_86_code, 2, (some .int), 8, [])
abbrev mModel_totalEarnings : Nat := 212
def gm212 : gM := (⟨"RepairBarrowsModel", "totalEarnings", "()J"⟩, prog_12_method_87_code, 1, (some .long), 8, [])
abbrev mModel_totalEarningsByHours : Nat := 213
def gm213 : gM := (⟨"RepairBarrowsModel", "totalEarningsByHours", "()J"⟩, prog_12_method_88_code, 1, (some .long), 8, [])
abbrev mModel_repaired : Nat := 214
def gm214 : gM := (⟨"RepairBarrowsModel", "repaired", "()I"⟩, prog_12_method_89_code, 1, (some .int), 8, [])
abbrev mModel_meanLateness : Nat := 215
def gm215 : gM := (⟨"RepairBarrowsModel", "meanLateness", "()D"⟩, prog_12_method_90_code, 1, (some .double), 8, [])
abbrev mModel_borrowedShare : Nat := 216
def gm216 : gM := (⟨"RepairBarrowsModel", "borrowedShare", "()F"⟩, prog_12_method_91_code, 1, (some .float), 8, [])
abbrev mModel_barrowByEarnings : Nat := 217
def gm217 : gM := (⟨"RepairBarrowsModel", "barrowByEarnings", "(I)I"⟩, prog_12_method_93_code, 5, (some .int), 8, [])
abbrev mModel_isAhead : Nat := 218
def gm218 : gM := (⟨"RepairBarrowsModel", "isAhead", "(II)Z"⟩, prog_12_method_92_code, 3, (some .boolean), 8, [])
abbrev mModel_isConsistent : Nat := 219
def gm219 : gM := (⟨"RepairBarrowsModel", "isConsistent", "()Z"⟩, prog_12_method_94_code, 1, (some .boolean), 8, [])
abbrev mModel_writeBarrow : Nat := 220
def gm220 : gM := (⟨"RepairBarrowsModel", "writeBarrow", "(I)I"⟩, prog_12_method_97_code, 3, (some .int), 8, [])
abbrev mModel_writeNumber : Nat := 221
def gm221 : gM := (⟨"RepairBarrowsModel", "writeNumber", "(I)V"⟩, prog_12_method_96_code, 3, none, 8, [])
abbrev mModel_write : Nat := 222
def gm222 : gM := (⟨"RepairBarrowsModel", "write", "(I)V"⟩, prog_12_method_95_code, 2, none, 8, [])
abbrev mModel_writePlan : Nat := 223
def gm223 : gM := (⟨"RepairBarrowsModel", "writePlan", "(I)I"⟩, prog_12_method_98_code, 7, (some .int), 8, [])
abbrev mModel_charAt : Nat := 224
def gm224 : gM := (⟨"RepairBarrowsModel", "charAt", "(I)C"⟩, prog_12_method_99_code, 2, (some .char), 8, [])
abbrev mModel_type : Nat := 225
def gm225 : gM := (⟨"RepairBarrowsModel", "type", "(C)I"⟩, prog_12_method_100_code, 2, (some .int), 8, [])
abbrev mModel_run : Nat := 226
def gm226 : gM := (⟨"RepairBarrowsModel", "run", "()I"⟩, prog_12_method_114_code, 2, (some .int), 8, [])
abbrev mModel_parse : Nat := 227
def gm227 : gM := (⟨"RepairBarrowsModel", "parse", "()V"⟩, prog_12_method_112_code, 1, none, 8, [])
abbrev mModel_command : Nat := 228
def gm228 : gM := (⟨"RepairBarrowsModel", "command", "()V"⟩, prog_12_method_111_code, 2, none, 8, [])
abbrev mModel_word : Nat := 229
def gm229 : gM := (⟨"RepairBarrowsModel", "word", "()I"⟩, prog_12_method_107_code, 4, (some .int), 8, [])
abbrev mModel_spelled : Nat := 230
def gm230 : gM := (⟨"RepairBarrowsModel", "spelled", "(II)I"⟩, prog_12_method_106_code, 2, (some .int), 8, [])
abbrev mModel_pick : Nat := 231
def gm231 : gM := (⟨"RepairBarrowsModel", "pick", "(IIIIIII)I"⟩, prog_12_method_105_code, 7, (some .int), 8, [])
abbrev mModel_expect : Nat := 232
def gm232 : gM := (⟨"RepairBarrowsModel", "expect", "(I)V"⟩, prog_12_method_102_code, 2, none, 8, [])
abbrev mModel_mark : Nat := 233
def gm233 : gM := (⟨"RepairBarrowsModel", "mark", "()I"⟩, prog_12_method_101_code, 1, (some .int), 8, [])
abbrev mModel_readsJob : Nat := 234
def gm234 : gM := (⟨"RepairBarrowsModel", "readsJob", "()V"⟩, prog_12_method_109_code, 1, none, 8, [])
abbrev mModel_number : Nat := 235
def gm235 : gM := (⟨"RepairBarrowsModel", "number", "(I)I"⟩, prog_12_method_103_code, 4, (some .int), 8, [])
abbrev mModel_put : Nat := 236
def gm236 : gM := (⟨"RepairBarrowsModel", "put", "(II)V"⟩, prog_12_method_108_code, 3, none, 8, [])
abbrev mModel_kindMark : Nat := 237
def gm237 : gM := (⟨"RepairBarrowsModel", "kindMark", "()I"⟩, prog_12_method_104_code, 2, (some .int), 8, [])
abbrev mModel_readsOther : Nat := 238
def gm238 : gM := (⟨"RepairBarrowsModel", "readsOther", "(I)V"⟩, prog_12_method_110_code, 2, none, 8, [])
abbrev mModel_cannot : Nat := 239
def gm239 : gM := (⟨"RepairBarrowsModel", "cannot", "(I)Z"⟩, prog_12_method_113_code, 6, (some .boolean), 8, [])
abbrev mModel_errorPosition : Nat := 240
def gm240 : gM := (⟨"RepairBarrowsModel", "errorPosition", "()I"⟩, prog_12_method_116_code, 1, (some .int), 8, [])
abbrev mModel_present : Nat := 241
def gm241 : gM := (⟨"RepairBarrowsModel", "present", "(I)I"⟩, prog_12_method_115_code, 2, (some .int), 8, [])
abbrev mModel_failedCommand : Nat := 242
def gm242 : gM := (⟨"RepairBarrowsModel", "failedCommand", "()I"⟩, prog_12_method_117_code, 1, (some .int), 8, [])
abbrev mModel_undo : Nat := 243
def gm243 : gM := (⟨"RepairBarrowsModel", "undo", "()I"⟩, prog_12_method_118_code, 1, (some .int), 8, [])
abbrev mModel_save : Nat := 244
def gm244 : gM := (⟨"RepairBarrowsModel", "save", "()I"⟩, prog_12_method_119_code, 1, (some .int), 8, [])
abbrev mModel_restore : Nat := 245
def gm245 : gM := (⟨"RepairBarrowsModel", "restore", "()I"⟩, prog_12_method_120_code, 1, (some .int), 8, [])
abbrev mLaw_addJob : Nat := 246
def gm246 : gM := (⟨"RepairBarrowsLaw", "addJob", "(LRepairBarrows;IICIII[J)I"⟩, method_3_code, 9, (some .int), 9, [(0, 18, 21, 13, "java/lang/IllegalArgumentException"), (0, 18, 25, 15, "java/lang/IllegalStateException")])
abbrev mLaw_cancelJob : Nat := 247
def gm247 : gM := (⟨"RepairBarrowsLaw", "cancelJob", "(LRepairBarrows;I[J)I"⟩, method_4_code, 4, (some .int), 9, [(0, 9, 12, 21, "java/util/NoSuchElementException")])
abbrev mLaw_assign : Nat := 248
def gm248 : gM := (⟨"RepairBarrowsLaw", "assign", "(LRepairBarrows;II[J)I"⟩, method_5_code, 5, (some .int), 9, [(0, 10, 13, 21, "java/util/NoSuchElementException"), (0, 10, 17, 27, "java/lang/IndexOutOfBoundsException"), (0, 10, 21, 15, "java/lang/IllegalStateException")])
abbrev mLaw_unassign : Nat := 249
def gm249 : gM := (⟨"RepairBarrowsLaw", "unassign", "(LRepairBarrows;I[J)I"⟩, method_6_code, 4, (some .int), 9, [(0, 9, 12, 21, "java/util/NoSuchElementException"), (0, 9, 15, 15, "java/lang/IllegalStateException")])
abbrev mLaw_addStock : Nat := 250
def gm250 : gM := (⟨"RepairBarrowsLaw", "addStock", "(LRepairBarrows;CI[J)I"⟩, method_7_code, 5, (some .int), 9, [(0, 10, 13, 13, "java/lang/IllegalArgumentException"), (0, 10, 17, 15, "java/lang/IllegalStateException")])
abbrev mLaw_load : Nat := 251
def gm251 : gM := (⟨"RepairBarrowsLaw", "load", "(LRepairBarrows;ICI[J)I"⟩, method_8_code, 6, (some .int), 9, [(0, 12, 15, 27, "java/lang/IndexOutOfBoundsException"), (0, 12, 19, 13, "java/lang/IllegalArgumentException"), (0, 12, 23, 15, "java/lang/IllegalStateException"), (0, 12, 27, 40, "java/lang/UnsupportedOperationException")])
abbrev mLaw_borrow : Nat := 252
def gm252 : gM := (⟨"RepairBarrowsLaw", "borrow", "(LRepairBarrows;II[J)I"⟩, method_9_code, 5, (some .int), 9, [(0, 10, 13, 27, "java/lang/IndexOutOfBoundsException"), (0, 10, 17, 15, "java/lang/IllegalStateException")])
abbrev mLaw_giveBack : Nat := 253
def gm253 : gM := (⟨"RepairBarrowsLaw", "giveBack", "(LRepairBarrows;II[J)I"⟩, method_10_code, 5, (some .int), 9, [(0, 10, 13, 27, "java/lang/IndexOutOfBoundsException"), (0, 10, 17, 15, "java/lang/IllegalStateException")])
abbrev mLaw_repair : Nat := 254
def gm254 : gM := (⟨"RepairBarrowsLaw", "repair", "(LRepairBarrows;II[J)I"⟩, method_11_code, 5, (some .int), 9, [(0, 10, 13, 27, "java/lang/IndexOutOfBoundsException"), (0, 10, 17, 21, "java/util/NoSuchElementException"), (0, 10, 21, 15, "java/lang/IllegalStateException"), (0, 10, 25, 40, "java/lang/UnsupportedOperationException")])
abbrev mLaw_goHome : Nat := 255
def gm255 : gM := (⟨"RepairBarrowsLaw", "goHome", "(LRepairBarrows;I[J)I"⟩, method_12_code, 4, (some .int), 9, [(0, 9, 12, 27, "java/lang/IndexOutOfBoundsException")])
abbrev mLaw_rest : Nat := 256
def gm256 : gM := (⟨"RepairBarrowsLaw", "rest", "(LRepairBarrows;II[J)I"⟩, method_13_code, 5, (some .int), 9, [(0, 10, 13, 27, "java/lang/IndexOutOfBoundsException"), (0, 10, 17, 13, "java/lang/IllegalArgumentException")])
abbrev mLaw_kind : Nat := 257
def gm257 : gM := (⟨"RepairBarrowsLaw", "kind", "(LRepairBarrows;I[J)I"⟩, method_14_code, 4, (some .int), 9, [(0, 9, 12, 21, "java/util/NoSuchElementException")])
abbrev mLaw_tool : Nat := 258
def gm258 : gM := (⟨"RepairBarrowsLaw", "tool", "(LRepairBarrows;I[J)I"⟩, method_15_code, 4, (some .int), 9, [(0, 9, 12, 21, "java/util/NoSuchElementException")])
abbrev mLaw_due : Nat := 259
def gm259 : gM := (⟨"RepairBarrowsLaw", "due", "(LRepairBarrows;I[J)I"⟩, method_16_code, 4, (some .int), 9, [(0, 9, 12, 21, "java/util/NoSuchElementException")])
abbrev mLaw_barrowOf : Nat := 260
def gm260 : gM := (⟨"RepairBarrowsLaw", "barrowOf", "(LRepairBarrows;I[J)I"⟩, method_17_code, 4, (some .int), 9, [(0, 9, 12, 21, "java/util/NoSuchElementException")])
abbrev mLaw_jobByDue : Nat := 261
def gm261 : gM := (⟨"RepairBarrowsLaw", "jobByDue", "(LRepairBarrows;I[J)I"⟩, method_18_code, 4, (some .int), 9, [(0, 9, 12, 21, "java/util/NoSuchElementException")])
abbrev mLaw_stock : Nat := 262
def gm262 : gM := (⟨"RepairBarrowsLaw", "stock", "(LRepairBarrows;C[J)I"⟩, method_19_code, 4, (some .int), 9, [(0, 9, 12, 13, "java/lang/IllegalArgumentException")])
abbrev mLaw_parts : Nat := 263
def gm263 : gM := (⟨"RepairBarrowsLaw", "parts", "(LRepairBarrows;IC[J)I"⟩, method_20_code, 5, (some .int), 9, [(0, 10, 13, 27, "java/lang/IndexOutOfBoundsException"), (0, 10, 17, 13, "java/lang/IllegalArgumentException")])
abbrev mLaw_tools : Nat := 264
def gm264 : gM := (⟨"RepairBarrowsLaw", "tools", "(LRepairBarrows;I[J)I"⟩, method_21_code, 4, (some .int), 9, [(0, 9, 12, 27, "java/lang/IndexOutOfBoundsException")])
abbrev mLaw_holder : Nat := 265
def gm265 : gM := (⟨"RepairBarrowsLaw", "holder", "(LRepairBarrows;I[J)I"⟩, method_22_code, 4, (some .int), 9, [(0, 9, 12, 27, "java/lang/IndexOutOfBoundsException"), (0, 9, 15, 21, "java/util/NoSuchElementException")])
abbrev mLaw_barrowX : Nat := 266
def gm266 : gM := (⟨"RepairBarrowsLaw", "barrowX", "(LRepairBarrows;I[J)I"⟩, method_23_code, 4, (some .int), 9, [(0, 9, 12, 27, "java/lang/IndexOutOfBoundsException")])
abbrev mLaw_barrowY : Nat := 267
def gm267 : gM := (⟨"RepairBarrowsLaw", "barrowY", "(LRepairBarrows;I[J)I"⟩, method_24_code, 4, (some .int), 9, [(0, 9, 12, 27, "java/lang/IndexOutOfBoundsException")])
abbrev mLaw_clock : Nat := 268
def gm268 : gM := (⟨"RepairBarrowsLaw", "clock", "(LRepairBarrows;I[J)I"⟩, method_25_code, 4, (some .int), 9, [(0, 9, 12, 27, "java/lang/IndexOutOfBoundsException")])
abbrev mLaw_isHome : Nat := 269
def gm269 : gM := (⟨"RepairBarrowsLaw", "isHome", "(LRepairBarrows;I[J)I"⟩, method_26_code, 4, (some .int), 9, [(0, 16, 19, 27, "java/lang/IndexOutOfBoundsException")])
abbrev mLaw_assigned : Nat := 270
def gm270 : gM := (⟨"RepairBarrowsLaw", "assigned", "(LRepairBarrows;I[J)I"⟩, method_27_code, 4, (some .int), 9, [(0, 9, 12, 27, "java/lang/IndexOutOfBoundsException")])
abbrev mLaw_canRepair : Nat := 271
def gm271 : gM := (⟨"RepairBarrowsLaw", "canRepair", "(LRepairBarrows;II[J)I"⟩, method_28_code, 5, (some .int), 9, [(0, 17, 20, 27, "java/lang/IndexOutOfBoundsException"), (0, 17, 24, 21, "java/util/NoSuchElementException")])
abbrev mLaw_finish : Nat := 272
def gm272 : gM := (⟨"RepairBarrowsLaw", "finish", "(LRepairBarrows;II[J)I"⟩, method_29_code, 5, (some .int), 9, [(0, 10, 13, 27, "java/lang/IndexOutOfBoundsException"), (0, 10, 17, 21, "java/util/NoSuchElementException")])
abbrev mLaw_fastestBarrow : Nat := 273
def gm273 : gM := (⟨"RepairBarrowsLaw", "fastestBarrow", "(LRepairBarrows;I[J)I"⟩, method_30_code, 4, (some .int), 9, [(0, 9, 12, 21, "java/util/NoSuchElementException")])
abbrev mLaw_bestLateness : Nat := 274
def gm274 : gM := (⟨"RepairBarrowsLaw", "bestLateness", "(LRepairBarrows;I[J)I"⟩, method_31_code, 4, (some .int), 9, [(0, 9, 12, 27, "java/lang/IndexOutOfBoundsException")])
abbrev mLaw_bestLatenessByOrders : Nat := 275
def gm275 : gM := (⟨"RepairBarrowsLaw", "bestLatenessByOrders", "(LRepairBarrows;I[J)I"⟩, method_32_code, 4, (some .int), 9, [(0, 9, 12, 27, "java/lang/IndexOutOfBoundsException")])
abbrev mLaw_planned : Nat := 276
def gm276 : gM := (⟨"RepairBarrowsLaw", "planned", "(LRepairBarrows;II[J)I"⟩, method_33_code, 5, (some .int), 9, [(0, 10, 13, 27, "java/lang/IndexOutOfBoundsException"), (0, 10, 17, 21, "java/util/NoSuchElementException")])
abbrev mLaw_earnings : Nat := 277
def gm277 : gM := (⟨"RepairBarrowsLaw", "earnings", "(LRepairBarrows;I[J)I"⟩, method_34_code, 4, (some .int), 9, [(0, 9, 12, 27, "java/lang/IndexOutOfBoundsException")])
abbrev mLaw_meanLateness : Nat := 278
def gm278 : gM := (⟨"RepairBarrowsLaw", "meanLateness", "(LRepairBarrows;[D)I"⟩, method_35_code, 3, (some .int), 9, [(0, 7, 10, 129, "java/lang/ArithmeticException")])
abbrev mLaw_barrowByEarnings : Nat := 279
def gm279 : gM := (⟨"RepairBarrowsLaw", "barrowByEarnings", "(LRepairBarrows;I[J)I"⟩, method_36_code, 4, (some .int), 9, [(0, 9, 12, 21, "java/util/NoSuchElementException")])
abbrev mLaw_writeBarrow : Nat := 280
def gm280 : gM := (⟨"RepairBarrowsLaw", "writeBarrow", "(LRepairBarrows;I[J)I"⟩, method_37_code, 4, (some .int), 9, [(0, 9, 12, 27, "java/lang/IndexOutOfBoundsException")])
abbrev mLaw_writePlan : Nat := 281
def gm281 : gM := (⟨"RepairBarrowsLaw", "writePlan", "(LRepairBarrows;I[J)I"⟩, method_38_code, 4, (some .int), 9, [(0, 9, 12, 27, "java/lang/IndexOutOfBoundsException")])
abbrev mLaw_charAt : Nat := 282
def gm282 : gM := (⟨"RepairBarrowsLaw", "charAt", "(LRepairBarrows;I[J)I"⟩, method_39_code, 4, (some .int), 9, [(0, 9, 12, 27, "java/lang/IndexOutOfBoundsException")])
abbrev mLaw_type : Nat := 283
def gm283 : gM := (⟨"RepairBarrowsLaw", "type", "(LRepairBarrows;C[J)I"⟩, method_40_code, 4, (some .int), 9, [(0, 9, 12, 15, "java/lang/IllegalStateException")])
abbrev mLaw_run : Nat := 284
def gm284 : gM := (⟨"RepairBarrowsLaw", "run", "(LRepairBarrows;[J)I"⟩, method_41_code, 3, (some .int), 9, [(0, 8, 11, 13, "java/lang/IllegalArgumentException"), (0, 8, 14, 40, "java/lang/UnsupportedOperationException")])
abbrev mLaw_errorPosition : Nat := 285
def gm285 : gM := (⟨"RepairBarrowsLaw", "errorPosition", "(LRepairBarrows;[J)I"⟩, method_42_code, 3, (some .int), 9, [(0, 8, 11, 21, "java/util/NoSuchElementException")])
abbrev mLaw_failedCommand : Nat := 286
def gm286 : gM := (⟨"RepairBarrowsLaw", "failedCommand", "(LRepairBarrows;[J)I"⟩, method_43_code, 3, (some .int), 9, [(0, 8, 11, 21, "java/util/NoSuchElementException")])
abbrev mLaw_undo : Nat := 287
def gm287 : gM := (⟨"RepairBarrowsLaw", "undo", "(LRepairBarrows;[J)I"⟩, method_44_code, 3, (some .int), 9, [(0, 8, 11, 15, "java/lang/IllegalStateException")])
abbrev mLaw_restore : Nat := 288
def gm288 : gM := (⟨"RepairBarrowsLaw", "restore", "(LRepairBarrows;[J)I"⟩, method_45_code, 3, (some .int), 9, [(0, 8, 11, 15, "java/lang/IllegalStateException")])
abbrev mLaw_law : Nat := 289
def gm289 : gM := (⟨"RepairBarrowsLaw", "law", "([I)Z"⟩, code, 10, (some .boolean), 9, [])
abbrev mObject_init : Nat := 290
def gm290 : gM := (⟨"java/lang/Object", "<init>", "()V"⟩, object_method_1_code, 1, none, 10, [])
abbrev mASB_init : Nat := 291
def gm291 : gM := (⟨"java/lang/AbstractStringBuilder", "<init>", "(I)V"⟩, prog_14_method_2_code, 2, none, 11, [])
abbrev mASB_setLength : Nat := 292
def gm292 : gM := (⟨"java/lang/AbstractStringBuilder", "setLength", "(I)V"⟩, prog_14_method_13_code, 2, none, 11, [])
abbrev mASB_append : Nat := 293
def gm293 : gM := (⟨"java/lang/AbstractStringBuilder", "append", "(Ljava/lang/String;)Ljava/lang/AbstractStringBuilder;"⟩, prog_14_method_22_code, 3, (some (.object "java/lang/AbstractStringBuilder")), 11, [])
abbrev mASB_ensureCapacityInternal : Nat := 294
def gm294 : gM := (⟨"java/lang/AbstractStringBuilder", "ensureCapacityInternal", "(I)V"⟩, prog_14_method_9_code, 3, none, 11, [])
abbrev mASB_newCapacity : Nat := 295
def gm295 : gM := (⟨"java/lang/AbstractStringBuilder", "newCapacity", "(I)I"⟩, prog_14_method_10_code, 6, (some .int), 11, [])
abbrev mASB_isLatin1 : Nat := 296
def gm296 : gM := (⟨"java/lang/AbstractStringBuilder", "isLatin1", "()Z"⟩, prog_14_method_68_code, 1, (some .boolean), 11, [])
abbrev mASB_putStringAt : Nat := 297
def gm297 : gM := (⟨"java/lang/AbstractStringBuilder", "putStringAt", "(ILjava/lang/String;)V"⟩, prog_14_method_73_code, 3, none, 11, [])
abbrev mASB_inflateIfNeededFor : Nat := 298
def gm298 : gM := (⟨"java/lang/AbstractStringBuilder", "inflateIfNeededFor", "(Ljava/lang/String;)V"⟩, prog_14_method_71_code, 2, none, 11, [])
abbrev mASB_append_1 : Nat := 299
def gm299 : gM := (⟨"java/lang/AbstractStringBuilder", "append", "(I)Ljava/lang/AbstractStringBuilder;"⟩, prog_14_method_32_code, 4, (some (.object "java/lang/AbstractStringBuilder")), 11, [])
abbrev mASB_length : Nat := 300
def gm300 : gM := (⟨"java/lang/AbstractStringBuilder", "length", "()I"⟩, prog_14_method_6_code, 1, (some .int), 11, [])
abbrev mASB_append_2 : Nat := 301
def gm301 : gM := (⟨"java/lang/AbstractStringBuilder", "append", "(C)Ljava/lang/AbstractStringBuilder;"⟩, prog_14_method_31_code, 2, (some (.object "java/lang/AbstractStringBuilder")), 11, [])
abbrev mASB_charAt : Nat := 302
def gm302 : gM := (⟨"java/lang/AbstractStringBuilder", "charAt", "(I)C"⟩, prog_14_method_14_code, 5, (some .char), 11, [])
abbrev mSB_init : Nat := 303
def gm303 : gM := (⟨"java/lang/StringBuilder", "<init>", "()V"⟩, prog_31_method_1_code, 1, none, 12, [])
abbrev mSB_setLength : Nat := 304
def gm304 : gM := (⟨"java/lang/StringBuilder", "setLength", "(I)V"⟩, prog_31_method_89_code, 2, none, 12, [])
abbrev mSB_append : Nat := 305
def gm305 : gM := (⟨"java/lang/StringBuilder", "append", "(Ljava/lang/String;)Ljava/lang/StringBuilder;"⟩, prog_31_method_7_code, 2, (some (.object "java/lang/StringBuilder")), 12, [])
abbrev mSB_append_1 : Nat := 306
def gm306 : gM := (⟨"java/lang/StringBuilder", "append", "(I)Ljava/lang/StringBuilder;"⟩, prog_31_method_15_code, 2, (some (.object "java/lang/StringBuilder")), 12, [])
abbrev mSB_length : Nat := 307
def gm307 : gM := (⟨"java/lang/StringBuilder", "length", "()I"⟩, prog_31_method_93_code, 1, (some .int), 12, [])
abbrev mSB_append_2 : Nat := 308
def gm308 : gM := (⟨"java/lang/StringBuilder", "append", "(C)Ljava/lang/StringBuilder;"⟩, prog_31_method_14_code, 2, (some (.object "java/lang/StringBuilder")), 12, [])
abbrev mSB_charAt : Nat := 309
def gm309 : gM := (⟨"java/lang/StringBuilder", "charAt", "(I)C"⟩, prog_31_method_88_code, 2, (some .char), 12, [])
abbrev mString_length : Nat := 310
def gm310 : gM := (⟨"java/lang/String", "length", "()I"⟩, prog_30_method_54_code, 1, (some .int), 13, [])
abbrev mString_coder : Nat := 311
def gm311 : gM := (⟨"java/lang/String", "coder", "()B"⟩, prog_30_method_152_code, 1, (some .byte), 13, [])
abbrev mString_getBytes : Nat := 312
def gm312 : gM := (⟨"java/lang/String", "getBytes", "([BIB)V"⟩, prog_30_method_147_code, 4, none, 13, [])
abbrev mString_checkIndex : Nat := 313
def gm313 : gM := (⟨"java/lang/String", "checkIndex", "(II)V"⟩, prog_30_method_155_code, 2, none, 13, [])
abbrev mString_charAt : Nat := 314
def gm314 : gM := (⟨"java/lang/String", "charAt", "(I)C"⟩, prog_30_method_56_code, 2, (some .char), 13, [])
abbrev mString_isLatin1 : Nat := 315
def gm315 : gM := (⟨"java/lang/String", "isLatin1", "()Z"⟩, prog_30_method_154_code, 1, (some .boolean), 13, [])
abbrev mLatin1_canEncode : Nat := 316
def gm316 : gM := (⟨"java/lang/StringLatin1", "canEncode", "(C)Z"⟩, prog_33_method_3_code, 1, (some .boolean), 14, [])
abbrev mLatin1_charAt : Nat := 317
def gm317 : gM := (⟨"java/lang/StringLatin1", "charAt", "([BI)C"⟩, prog_33_method_2_code, 2, (some .char), 14, [])
abbrev mInteger_stringSize : Nat := 318
def gm318 : gM := (⟨"java/lang/Integer", "stringSize", "(I)I"⟩, prog_26_method_13_code, 4, (some .int), 15, [])
abbrev mInteger_getChars : Nat := 319
def gm319 : gM := (⟨"java/lang/Integer", "getChars", "(II[B)I"⟩, prog_26_method_12_code, 7, (some .int), 15, [])
abbrev mMath_abs : Nat := 320
def gm320 : gM := (⟨"java/lang/Math", "abs", "(I)I"⟩, prog_27_method_59_code, 1, (some .int), 16, [])
abbrev mMath_max : Nat := 321
def gm321 : gM := (⟨"java/lang/Math", "max", "(II)I"⟩, prog_27_method_65_code, 2, (some .int), 16, [])
abbrev mMath_min : Nat := 322
def gm322 : gM := (⟨"java/lang/Math", "min", "(II)I"⟩, prog_27_method_69_code, 2, (some .int), 16, [])
abbrev mEnum_ordinal : Nat := 323
def gm323 : gM := (⟨"java/lang/Enum", "ordinal", "()I"⟩, prog_21_method_2_code, 1, (some .int), 17, [])
abbrev mArrays_copyOf : Nat := 324
def gm324 : gM := (⟨"java/util/Arrays", "copyOf", "([BI)[B"⟩, prog_40_method_121_code, 3, (some (.array .byte)), 18, [])
abbrev mArrSup_newLength : Nat := 325
def gm325 : gM := (⟨"jdk/internal/util/ArraysSupport", "newLength", "(III)I"⟩, prog_42_method_27_code, 4, (some .int), 19, [])
abbrev mPrecond_checkIndex : Nat := 326
def gm326 : gM := (⟨"jdk/internal/util/Preconditions", "checkIndex", "(IILjava/util/function/BiFunction;)I"⟩, prog_43_method_11_code, 3, (some .int), 20, [])
def gMT0 : List gM := [gm0, gm1, gm2, gm3, gm4, gm5, gm6, gm7, gm8, gm9, gm10, gm11, gm12, gm13, gm14, gm15, gm16, gm17, gm18, gm19, gm20, gm21, gm22, gm23, gm24, gm25, gm26, gm27, gm28, gm29, gm30, gm31, gm32, gm33, gm34, gm35, gm36, gm37, gm38, gm39]
def gMT1 : List gM := [gm40, gm41, gm42, gm43, gm44, gm45, gm46, gm47, gm48, gm49, gm50, gm51, gm52, gm53, gm54, gm55, gm56, gm57, gm58, gm59, gm60, gm61, gm62, gm63, gm64, gm65, gm66, gm67, gm68, gm69, gm70, gm71, gm72, gm73, gm74, gm75, gm76, gm77, gm78, gm79]
def gMT2 : List gM := [gm80, gm81, gm82, gm83, gm84, gm85, gm86, gm87, gm88, gm89, gm90, gm91, gm92, gm93, gm94, gm95, gm96, gm97, gm98, gm99, gm100, gm101, gm102, gm103, gm104, gm105, gm106, gm107, gm108, gm109, gm110, gm111, gm112, gm113, gm114, gm115, gm116, gm117, gm118, gm119]
def gMT3 : List gM := [gm120, gm121, gm122, gm123, gm124, gm125, gm126, gm127, gm128, gm129, gm130, gm131, gm132, gm133, gm134, gm135, gm136, gm137, gm138, gm139, gm140, gm141, gm142, gm143, gm144, gm145, gm146, gm147, gm148, gm149, gm150, gm151, gm152, gm153, gm154, gm155, gm156, gm157, gm158, gm159]
def gMT4 : List gM := [gm160, gm161, gm162, gm163, gm164, gm165, gm166, gm167, gm168, gm169, gm170, gm171, gm172, gm173, gm174, gm175, gm176, gm177, gm178, gm179, gm180, gm181, gm182, gm183, gm184, gm185, gm186, gm187, gm188, gm189, gm190, gm191, gm192, gm193, gm194, gm195, gm196, gm197, gm198, gm199]
def gMT5 : List gM := [gm200, gm201, gm202, gm203, gm204, gm205, gm206, gm207, gm208, gm209, gm210, gm211, gm212, gm213, gm214, gm215, gm216, gm217, gm218, gm219, gm220, gm221, gm222, gm223, gm224, gm225, gm226, gm227, gm228, gm229, gm230, gm231, gm232, gm233, gm234, gm235, gm236, gm237, gm238, gm239]
def gMT6 : List gM := [gm240, gm241, gm242, gm243, gm244, gm245, gm246, gm247, gm248, gm249, gm250, gm251, gm252, gm253, gm254, gm255, gm256, gm257, gm258, gm259, gm260, gm261, gm262, gm263, gm264, gm265, gm266, gm267, gm268, gm269, gm270, gm271, gm272, gm273, gm274, gm275, gm276, gm277, gm278, gm279]
def gMT7 : List gM := [gm280, gm281, gm282, gm283, gm284, gm285, gm286, gm287, gm288, gm289, gm290, gm291, gm292, gm293, gm294, gm295, gm296, gm297, gm298, gm299, gm300, gm301, gm302, gm303, gm304, gm305, gm306, gm307, gm308, gm309, gm310, gm311, gm312, gm313, gm314, gm315, gm316, gm317, gm318, gm319]
def gMT8 : List gM := [gm320, gm321, gm322, gm323, gm324, gm325, gm326]
def gMT : List gM := gMT0 ++ (gMT1 ++ (gMT2 ++ (gMT3 ++ (gMT4 ++ (gMT5 ++ (gMT6 ++ (gMT7 ++ (gMT8))))))))
theorem gMT_0 : gMT[0]? = some gm0 := rfl
theorem gMT_1 : gMT[1]? = some gm1 := rfl
theorem gMT_2 : gMT[2]? = some gm2 := rfl
theorem gMT_3 : gMT[3]? = some gm3 := rfl
theorem gMT_4 : gMT[4]? = some gm4 := rfl
theorem gMT_5 : gMT[5]? = some gm5 := rfl
theorem gMT_6 : gMT[6]? = some gm6 := rfl
theorem gMT_7 : gMT[7]? = some gm7 := rfl
theorem gMT_8 : gMT[8]? = some gm8 := rfl
theorem gMT_9 : gMT[9]? = some gm9 := rfl
theorem gMT_10 : gMT[10]? = some gm10 := rfl
theorem gMT_11 : gMT[11]? = some gm11 := rfl
theorem gMT_12 : gMT[12]? = some gm12 := rfl
theorem gMT_13 : gMT[13]? = some gm13 := rfl
theorem gMT_14 : gMT[14]? = some gm14 := rfl
theorem gMT_15 : gMT[15]? = some gm15 := rfl
theorem gMT_16 : gMT[16]? = some gm16 := rfl
theorem gMT_17 : gMT[17]? = some gm17 := rfl
theorem gMT_18 : gMT[18]? = some gm18 := rfl
theorem gMT_19 : gMT[19]? = some gm19 := rfl
theorem gMT_20 : gMT[20]? = some gm20 := rfl
theorem gMT_21 : gMT[21]? = some gm21 := rfl
theorem gMT_22 : gMT[22]? = some gm22 := rfl
theorem gMT_23 : gMT[23]? = some gm23 := rfl
theorem gMT_24 : gMT[24]? = some gm24 := rfl
theorem gMT_25 : gMT[25]? = some gm25 := rfl
theorem gMT_26 : gMT[26]? = some gm26 := rfl
theorem gMT_27 : gMT[27]? = some gm27 := rfl
theorem gMT_28 : gMT[28]? = some gm28 := rfl
theorem gMT_29 : gMT[29]? = some gm29 := rfl
theorem gMT_30 : gMT[30]? = some gm30 := rfl
theorem gMT_31 : gMT[31]? = some gm31 := rfl
theorem gMT_32 : gMT[32]? = some gm32 := rfl
theorem gMT_33 : gMT[33]? = some gm33 := rfl
theorem gMT_34 : gMT[34]? = some gm34 := rfl
theorem gMT_35 : gMT[35]? = some gm35 := rfl
theorem gMT_36 : gMT[36]? = some gm36 := rfl
theorem gMT_37 : gMT[37]? = some gm37 := rfl
theorem gMT_38 : gMT[38]? = some gm38 := rfl
theorem gMT_39 : gMT[39]? = some gm39 := rfl
theorem gMT_40 : gMT[40]? = some gm40 := rfl
theorem gMT_41 : gMT[41]? = some gm41 := rfl
theorem gMT_42 : gMT[42]? = some gm42 := rfl
theorem gMT_43 : gMT[43]? = some gm43 := rfl
theorem gMT_44 : gMT[44]? = some gm44 := rfl
theorem gMT_45 : gMT[45]? = some gm45 := rfl
theorem gMT_46 : gMT[46]? = some gm46 := rfl
theorem gMT_47 : gMT[47]? = some gm47 := rfl
theorem gMT_48 : gMT[48]? = some gm48 := rfl
theorem gMT_49 : gMT[49]? = some gm49 := rfl
theorem gMT_50 : gMT[50]? = some gm50 := rfl
theorem gMT_51 : gMT[51]? = some gm51 := rfl
theorem gMT_52 : gMT[52]? = some gm52 := rfl
theorem gMT_53 : gMT[53]? = some gm53 := rfl
theorem gMT_54 : gMT[54]? = some gm54 := rfl
theorem gMT_55 : gMT[55]? = some gm55 := rfl
theorem gMT_56 : gMT[56]? = some gm56 := rfl
theorem gMT_57 : gMT[57]? = some gm57 := rfl
theorem gMT_58 : gMT[58]? = some gm58 := rfl
theorem gMT_59 : gMT[59]? = some gm59 := rfl
theorem gMT_60 : gMT[60]? = some gm60 := rfl
theorem gMT_61 : gMT[61]? = some gm61 := rfl
theorem gMT_62 : gMT[62]? = some gm62 := rfl
theorem gMT_63 : gMT[63]? = some gm63 := rfl
theorem gMT_64 : gMT[64]? = some gm64 := rfl
theorem gMT_65 : gMT[65]? = some gm65 := rfl
theorem gMT_66 : gMT[66]? = some gm66 := rfl
theorem gMT_67 : gMT[67]? = some gm67 := rfl
theorem gMT_68 : gMT[68]? = some gm68 := rfl
theorem gMT_69 : gMT[69]? = some gm69 := rfl
theorem gMT_70 : gMT[70]? = some gm70 := rfl
theorem gMT_71 : gMT[71]? = some gm71 := rfl
theorem gMT_72 : gMT[72]? = some gm72 := rfl
theorem gMT_73 : gMT[73]? = some gm73 := rfl
theorem gMT_74 : gMT[74]? = some gm74 := rfl
theorem gMT_75 : gMT[75]? = some gm75 := rfl
theorem gMT_76 : gMT[76]? = some gm76 := rfl
theorem gMT_77 : gMT[77]? = some gm77 := rfl
theorem gMT_78 : gMT[78]? = some gm78 := rfl
theorem gMT_79 : gMT[79]? = some gm79 := rfl
theorem gMT_80 : gMT[80]? = some gm80 := rfl
theorem gMT_81 : gMT[81]? = some gm81 := rfl
theorem gMT_82 : gMT[82]? = some gm82 := rfl
theorem gMT_83 : gMT[83]? = some gm83 := rfl
theorem gMT_84 : gMT[84]? = some gm84 := rfl
theorem gMT_85 : gMT[85]? = some gm85 := rfl
theorem gMT_86 : gMT[86]? = some gm86 := rfl
theorem gMT_87 : gMT[87]? = some gm87 := rfl
theorem gMT_88 : gMT[88]? = some gm88 := rfl
theorem gMT_89 : gMT[89]? = some gm89 := rfl
theorem gMT_90 : gMT[90]? = some gm90 := rfl
theorem gMT_91 : gMT[91]? = some gm91 := rfl
theorem gMT_92 : gMT[92]? = some gm92 := rfl
theorem gMT_93 : gMT[93]? = some gm93 := rfl
theorem gMT_94 : gMT[94]? = some gm94 := rfl
theorem gMT_95 : gMT[95]? = some gm95 := rfl
theorem gMT_96 : gMT[96]? = some gm96 := rfl
theorem gMT_97 : gMT[97]? = some gm97 := rfl
theorem gMT_98 : gMT[98]? = some gm98 := rfl
theorem gMT_99 : gMT[99]? = some gm99 := rfl
theorem gMT_100 : gMT[100]? = some gm100 := rfl
theorem gMT_101 : gMT[101]? = some gm101 := rfl
theorem gMT_102 : gMT[102]? = some gm102 := rfl
theorem gMT_103 : gMT[103]? = some gm103 := rfl
theorem gMT_104 : gMT[104]? = some gm104 := rfl
theorem gMT_105 : gMT[105]? = some gm105 := rfl
theorem gMT_106 : gMT[106]? = some gm106 := rfl
theorem gMT_107 : gMT[107]? = some gm107 := rfl
theorem gMT_108 : gMT[108]? = some gm108 := rfl
theorem gMT_109 : gMT[109]? = some gm109 := rfl
theorem gMT_110 : gMT[110]? = some gm110 := rfl
theorem gMT_111 : gMT[111]? = some gm111 := rfl
theorem gMT_112 : gMT[112]? = some gm112 := rfl
theorem gMT_113 : gMT[113]? = some gm113 := rfl
theorem gMT_114 : gMT[114]? = some gm114 := rfl
theorem gMT_115 : gMT[115]? = some gm115 := rfl
theorem gMT_116 : gMT[116]? = some gm116 := rfl
theorem gMT_117 : gMT[117]? = some gm117 := rfl
theorem gMT_118 : gMT[118]? = some gm118 := rfl
theorem gMT_119 : gMT[119]? = some gm119 := rfl
theorem gMT_120 : gMT[120]? = some gm120 := rfl
theorem gMT_121 : gMT[121]? = some gm121 := rfl
theorem gMT_122 : gMT[122]? = some gm122 := rfl
theorem gMT_123 : gMT[123]? = some gm123 := rfl
theorem gMT_124 : gMT[124]? = some gm124 := rfl
theorem gMT_125 : gMT[125]? = some gm125 := rfl
theorem gMT_126 : gMT[126]? = some gm126 := rfl
theorem gMT_127 : gMT[127]? = some gm127 := rfl
theorem gMT_128 : gMT[128]? = some gm128 := rfl
theorem gMT_129 : gMT[129]? = some gm129 := rfl
theorem gMT_130 : gMT[130]? = some gm130 := rfl
theorem gMT_131 : gMT[131]? = some gm131 := rfl
theorem gMT_132 : gMT[132]? = some gm132 := rfl
theorem gMT_133 : gMT[133]? = some gm133 := rfl
theorem gMT_134 : gMT[134]? = some gm134 := rfl
theorem gMT_135 : gMT[135]? = some gm135 := rfl
theorem gMT_136 : gMT[136]? = some gm136 := rfl
theorem gMT_137 : gMT[137]? = some gm137 := rfl
theorem gMT_138 : gMT[138]? = some gm138 := rfl
theorem gMT_139 : gMT[139]? = some gm139 := rfl
theorem gMT_140 : gMT[140]? = some gm140 := rfl
theorem gMT_141 : gMT[141]? = some gm141 := rfl
theorem gMT_142 : gMT[142]? = some gm142 := rfl
theorem gMT_143 : gMT[143]? = some gm143 := rfl
theorem gMT_144 : gMT[144]? = some gm144 := rfl
theorem gMT_145 : gMT[145]? = some gm145 := rfl
theorem gMT_146 : gMT[146]? = some gm146 := rfl
theorem gMT_147 : gMT[147]? = some gm147 := rfl
theorem gMT_148 : gMT[148]? = some gm148 := rfl
theorem gMT_149 : gMT[149]? = some gm149 := rfl
theorem gMT_150 : gMT[150]? = some gm150 := rfl
theorem gMT_151 : gMT[151]? = some gm151 := rfl
theorem gMT_152 : gMT[152]? = some gm152 := rfl
theorem gMT_153 : gMT[153]? = some gm153 := rfl
theorem gMT_154 : gMT[154]? = some gm154 := rfl
theorem gMT_155 : gMT[155]? = some gm155 := rfl
theorem gMT_156 : gMT[156]? = some gm156 := rfl
theorem gMT_157 : gMT[157]? = some gm157 := rfl
theorem gMT_158 : gMT[158]? = some gm158 := rfl
theorem gMT_159 : gMT[159]? = some gm159 := rfl
theorem gMT_160 : gMT[160]? = some gm160 := rfl
theorem gMT_161 : gMT[161]? = some gm161 := rfl
theorem gMT_162 : gMT[162]? = some gm162 := rfl
theorem gMT_163 : gMT[163]? = some gm163 := rfl
theorem gMT_164 : gMT[164]? = some gm164 := rfl
theorem gMT_165 : gMT[165]? = some gm165 := rfl
theorem gMT_166 : gMT[166]? = some gm166 := rfl
theorem gMT_167 : gMT[167]? = some gm167 := rfl
theorem gMT_168 : gMT[168]? = some gm168 := rfl
theorem gMT_169 : gMT[169]? = some gm169 := rfl
theorem gMT_170 : gMT[170]? = some gm170 := rfl
theorem gMT_171 : gMT[171]? = some gm171 := rfl
theorem gMT_172 : gMT[172]? = some gm172 := rfl
theorem gMT_173 : gMT[173]? = some gm173 := rfl
theorem gMT_174 : gMT[174]? = some gm174 := rfl
theorem gMT_175 : gMT[175]? = some gm175 := rfl
theorem gMT_176 : gMT[176]? = some gm176 := rfl
theorem gMT_177 : gMT[177]? = some gm177 := rfl
theorem gMT_178 : gMT[178]? = some gm178 := rfl
theorem gMT_179 : gMT[179]? = some gm179 := rfl
theorem gMT_180 : gMT[180]? = some gm180 := rfl
theorem gMT_181 : gMT[181]? = some gm181 := rfl
theorem gMT_182 : gMT[182]? = some gm182 := rfl
theorem gMT_183 : gMT[183]? = some gm183 := rfl
theorem gMT_184 : gMT[184]? = some gm184 := rfl
theorem gMT_185 : gMT[185]? = some gm185 := rfl
theorem gMT_186 : gMT[186]? = some gm186 := rfl
theorem gMT_187 : gMT[187]? = some gm187 := rfl
theorem gMT_188 : gMT[188]? = some gm188 := rfl
theorem gMT_189 : gMT[189]? = some gm189 := rfl
theorem gMT_190 : gMT[190]? = some gm190 := rfl
theorem gMT_191 : gMT[191]? = some gm191 := rfl
theorem gMT_192 : gMT[192]? = some gm192 := rfl
theorem gMT_193 : gMT[193]? = some gm193 := rfl
theorem gMT_194 : gMT[194]? = some gm194 := rfl
theorem gMT_195 : gMT[195]? = some gm195 := rfl
theorem gMT_196 : gMT[196]? = some gm196 := rfl
theorem gMT_197 : gMT[197]? = some gm197 := rfl
theorem gMT_198 : gMT[198]? = some gm198 := rfl
theorem gMT_199 : gMT[199]? = some gm199 := rfl
theorem gMT_200 : gMT[200]? = some gm200 := rfl
theorem gMT_201 : gMT[201]? = some gm201 := rfl
theorem gMT_202 : gMT[202]? = some gm202 := rfl
theorem gMT_203 : gMT[203]? = some gm203 := rfl
theorem gMT_204 : gMT[204]? = some gm204 := rfl
theorem gMT_205 : gMT[205]? = some gm205 := rfl
theorem gMT_206 : gMT[206]? = some gm206 := rfl
theorem gMT_207 : gMT[207]? = some gm207 := rfl
theorem gMT_208 : gMT[208]? = some gm208 := rfl
theorem gMT_209 : gMT[209]? = some gm209 := rfl
theorem gMT_210 : gMT[210]? = some gm210 := rfl
theorem gMT_211 : gMT[211]? = some gm211 := rfl
theorem gMT_212 : gMT[212]? = some gm212 := rfl
theorem gMT_213 : gMT[213]? = some gm213 := rfl
theorem gMT_214 : gMT[214]? = some gm214 := rfl
theorem gMT_215 : gMT[215]? = some gm215 := rfl
theorem gMT_216 : gMT[216]? = some gm216 := rfl
theorem gMT_217 : gMT[217]? = some gm217 := rfl
theorem gMT_218 : gMT[218]? = some gm218 := rfl
theorem gMT_219 : gMT[219]? = some gm219 := rfl
theorem gMT_220 : gMT[220]? = some gm220 := rfl
theorem gMT_221 : gMT[221]? = some gm221 := rfl
theorem gMT_222 : gMT[222]? = some gm222 := rfl
theorem gMT_223 : gMT[223]? = some gm223 := rfl
theorem gMT_224 : gMT[224]? = some gm224 := rfl
theorem gMT_225 : gMT[225]? = some gm225 := rfl
theorem gMT_226 : gMT[226]? = some gm226 := rfl
theorem gMT_227 : gMT[227]? = some gm227 := rfl
theorem gMT_228 : gMT[228]? = some gm228 := rfl
theorem gMT_229 : gMT[229]? = some gm229 := rfl
theorem gMT_230 : gMT[230]? = some gm230 := rfl
theorem gMT_231 : gMT[231]? = some gm231 := rfl
theorem gMT_232 : gMT[232]? = some gm232 := rfl
theorem gMT_233 : gMT[233]? = some gm233 := rfl
theorem gMT_234 : gMT[234]? = some gm234 := rfl
theorem gMT_235 : gMT[235]? = some gm235 := rfl
theorem gMT_236 : gMT[236]? = some gm236 := rfl
theorem gMT_237 : gMT[237]? = some gm237 := rfl
theorem gMT_238 : gMT[238]? = some gm238 := rfl
theorem gMT_239 : gMT[239]? = some gm239 := rfl
theorem gMT_240 : gMT[240]? = some gm240 := rfl
theorem gMT_241 : gMT[241]? = some gm241 := rfl
theorem gMT_242 : gMT[242]? = some gm242 := rfl
theorem gMT_243 : gMT[243]? = some gm243 := rfl
theorem gMT_244 : gMT[244]? = some gm244 := rfl
theorem gMT_245 : gMT[245]? = some gm245 := rfl
theorem gMT_246 : gMT[246]? = some gm246 := rfl
theorem gMT_247 : gMT[247]? = some gm247 := rfl
theorem gMT_248 : gMT[248]? = some gm248 := rfl
theorem gMT_249 : gMT[249]? = some gm249 := rfl
theorem gMT_250 : gMT[250]? = some gm250 := rfl
theorem gMT_251 : gMT[251]? = some gm251 := rfl
theorem gMT_252 : gMT[252]? = some gm252 := rfl
theorem gMT_253 : gMT[253]? = some gm253 := rfl
theorem gMT_254 : gMT[254]? = some gm254 := rfl
theorem gMT_255 : gMT[255]? = some gm255 := rfl
theorem gMT_256 : gMT[256]? = some gm256 := rfl
theorem gMT_257 : gMT[257]? = some gm257 := rfl
theorem gMT_258 : gMT[258]? = some gm258 := rfl
theorem gMT_259 : gMT[259]? = some gm259 := rfl
theorem gMT_260 : gMT[260]? = some gm260 := rfl
theorem gMT_261 : gMT[261]? = some gm261 := rfl
theorem gMT_262 : gMT[262]? = some gm262 := rfl
theorem gMT_263 : gMT[263]? = some gm263 := rfl
theorem gMT_264 : gMT[264]? = some gm264 := rfl
theorem gMT_265 : gMT[265]? = some gm265 := rfl
theorem gMT_266 : gMT[266]? = some gm266 := rfl
theorem gMT_267 : gMT[267]? = some gm267 := rfl
theorem gMT_268 : gMT[268]? = some gm268 := rfl
theorem gMT_269 : gMT[269]? = some gm269 := rfl
theorem gMT_270 : gMT[270]? = some gm270 := rfl
theorem gMT_271 : gMT[271]? = some gm271 := rfl
theorem gMT_272 : gMT[272]? = some gm272 := rfl
theorem gMT_273 : gMT[273]? = some gm273 := rfl
theorem gMT_274 : gMT[274]? = some gm274 := rfl
theorem gMT_275 : gMT[275]? = some gm275 := rfl
theorem gMT_276 : gMT[276]? = some gm276 := rfl
theorem gMT_277 : gMT[277]? = some gm277 := rfl
theorem gMT_278 : gMT[278]? = some gm278 := rfl
theorem gMT_279 : gMT[279]? = some gm279 := rfl
theorem gMT_280 : gMT[280]? = some gm280 := rfl
theorem gMT_281 : gMT[281]? = some gm281 := rfl
theorem gMT_282 : gMT[282]? = some gm282 := rfl
theorem gMT_283 : gMT[283]? = some gm283 := rfl
theorem gMT_284 : gMT[284]? = some gm284 := rfl
theorem gMT_285 : gMT[285]? = some gm285 := rfl
theorem gMT_286 : gMT[286]? = some gm286 := rfl
theorem gMT_287 : gMT[287]? = some gm287 := rfl
theorem gMT_288 : gMT[288]? = some gm288 := rfl
theorem gMT_289 : gMT[289]? = some gm289 := rfl
theorem gMT_290 : gMT[290]? = some gm290 := rfl
theorem gMT_291 : gMT[291]? = some gm291 := rfl
theorem gMT_292 : gMT[292]? = some gm292 := rfl
theorem gMT_293 : gMT[293]? = some gm293 := rfl
theorem gMT_294 : gMT[294]? = some gm294 := rfl
theorem gMT_295 : gMT[295]? = some gm295 := rfl
theorem gMT_296 : gMT[296]? = some gm296 := rfl
theorem gMT_297 : gMT[297]? = some gm297 := rfl
theorem gMT_298 : gMT[298]? = some gm298 := rfl
theorem gMT_299 : gMT[299]? = some gm299 := rfl
theorem gMT_300 : gMT[300]? = some gm300 := rfl
theorem gMT_301 : gMT[301]? = some gm301 := rfl
theorem gMT_302 : gMT[302]? = some gm302 := rfl
theorem gMT_303 : gMT[303]? = some gm303 := rfl
theorem gMT_304 : gMT[304]? = some gm304 := rfl
theorem gMT_305 : gMT[305]? = some gm305 := rfl
theorem gMT_306 : gMT[306]? = some gm306 := rfl
theorem gMT_307 : gMT[307]? = some gm307 := rfl
theorem gMT_308 : gMT[308]? = some gm308 := rfl
theorem gMT_309 : gMT[309]? = some gm309 := rfl
theorem gMT_310 : gMT[310]? = some gm310 := rfl
theorem gMT_311 : gMT[311]? = some gm311 := rfl
theorem gMT_312 : gMT[312]? = some gm312 := rfl
theorem gMT_313 : gMT[313]? = some gm313 := rfl
theorem gMT_314 : gMT[314]? = some gm314 := rfl
theorem gMT_315 : gMT[315]? = some gm315 := rfl
theorem gMT_316 : gMT[316]? = some gm316 := rfl
theorem gMT_317 : gMT[317]? = some gm317 := rfl
theorem gMT_318 : gMT[318]? = some gm318 := rfl
theorem gMT_319 : gMT[319]? = some gm319 := rfl
theorem gMT_320 : gMT[320]? = some gm320 := rfl
theorem gMT_321 : gMT[321]? = some gm321 := rfl
theorem gMT_322 : gMT[322]? = some gm322 := rfl
theorem gMT_323 : gMT[323]? = some gm323 := rfl
theorem gMT_324 : gMT[324]? = some gm324 := rfl
theorem gMT_325 : gMT[325]? = some gm325 := rfl
theorem gMT_326 : gMT[326]? = some gm326 := rfl
def LKf_0 : List (Nat × (Nat × Nat)) := [(9, (0, 4)), (15, (0, 0)), (19, (0, 1)), (22, (0, 2)), (25, (0, 3))]
def LKf_1 : List (Nat × (Nat × Nat)) := [(15, (1, 0)), (20, (1, 1))]
def LKf_2 : List (Nat × (Nat × Nat)) := [(13, (2, 0)), (17, (2, 1)), (21, (2, 2))]
def LKf_3 : List (Nat × (Nat × Nat)) := [(9, (3, 7)), (15, (3, 0)), (18, (3, 1)), (21, (3, 2)), (24, (3, 3)), (27, (3, 4)), (30, (3, 5)), (33, (3, 6))]
def LKf_4 : List (Nat × (Nat × Nat)) := [(11, (4, 0)), (17, (4, 1)), (21, (4, 2)), (25, (4, 3)), (28, (4, 4)), (32, (4, 5)), (36, (4, 6)), (39, (4, 7)), (42, (4, 8)), (54, (6, 3)), (60, (0, 0)), (65, (0, 1)), (68, (0, 2)), (89, (6, 1)), (92, (6, 0)), (93, (3, 7)), (108, (3, 0)), (111, (3, 1)), (112, (3, 2))]
def LKf_5 : List (Nat × (Nat × Nat)) := [(9, (5, 0)), (15, (5, 1)), (19, (5, 2)), (24, (5, 3)), (28, (5, 4)), (44, (11, 1)), (50, (1, 1)), (58, (1, 0))]
def LKf_6 : List (Nat × (Nat × Nat)) := [(11, (6, 0)), (17, (6, 1)), (21, (6, 2)), (26, (6, 3)), (30, (6, 4)), (34, (6, 5)), (37, (6, 6)), (40, (6, 7)), (44, (6, 8)), (72, (3, 0)), (75, (3, 1)), (78, (3, 2)), (81, (3, 3)), (84, (3, 4)), (87, (3, 5)), (90, (3, 6)), (93, (3, 7)), (118, (0, 4)), (138, (0, 2)), (141, (0, 0)), (142, (0, 1)), (147, (0, 3))]
def LKf_7 : List (Nat × (Nat × Nat)) := [(10, (7, 0)), (16, (7, 1)), (19, (7, 2)), (26, (7, 3)), (33, (7, 4)), (40, (7, 5)), (47, (7, 6)), (51, (7, 7)), (55, (7, 8)), (106, (6, 1)), (116, (3, 3)), (125, (3, 4)), (128, (3, 6)), (131, (3, 7)), (137, (6, 0)), (145, (3, 0)), (148, (6, 4)), (159, (0, 4)), (174, (6, 5)), (177, (0, 0)), (180, (0, 1)), (183, (0, 2)), (203, (6, 3)), (214, (4, 8)), (217, (4, 6)), (220, (0, 3)), (225, (6, 7)), (231, (6, 8)), (234, (6, 6)), (274, (4, 7)), (309, (5, 4)), (310, (2, 2)), (320, (5, 3)), (328, (1, 1)), (338, (1, 0))]
def LKf_8 : List (Nat × (Nat × Nat)) := [(7, (8, 0)), (13, (8, 1)), (16, (8, 2)), (19, (8, 3)), (22, (8, 4)), (25, (8, 5)), (28, (8, 6)), (32, (8, 7)), (35, (8, 8)), (38, (8, 9)), (41, (8, 10)), (44, (8, 11)), (47, (8, 12)), (51, (8, 13)), (54, (8, 14)), (57, (8, 15)), (60, (8, 16)), (63, (8, 17)), (66, (8, 18)), (69, (8, 19)), (72, (8, 20)), (75, (8, 21)), (78, (8, 22))]
def LKf_9 : List (Nat × (Nat × Nat)) := []
def LKf_10 : List (Nat × (Nat × Nat)) := []
def LKf_11 : List (Nat × (Nat × Nat)) := [(15, (9, 0)), (22, (9, 1)), (73, (9, 2)), (79, (9, 3))]
def LKf_12 : List (Nat × (Nat × Nat)) := []
def LKf_13 : List (Nat × (Nat × Nat)) := [(9, (10, 0)), (15, (10, 1)), (1048, (9, 2))]
def LKf_14 : List (Nat × (Nat × Nat)) := []
def LKf_15 : List (Nat × (Nat × Nat)) := []
def LKf_16 : List (Nat × (Nat × Nat)) := []
def LKf_17 : List (Nat × (Nat × Nat)) := [(7, (11, 0))]
def LKf_18 : List (Nat × (Nat × Nat)) := []
def LKf_19 : List (Nat × (Nat × Nat)) := []
def LKf_20 : List (Nat × (Nat × Nat)) := []
def LKfT : List (List (Nat × (Nat × Nat))) := [LKf_0, LKf_1, LKf_2, LKf_3, LKf_4, LKf_5, LKf_6, LKf_7, LKf_8, LKf_9, LKf_10, LKf_11, LKf_12, LKf_13, LKf_14, LKf_15, LKf_16, LKf_17, LKf_18, LKf_19, LKf_20]
def LKf (o i : Nat) : Option ((Nat × Nat)) := (LKfT[o]?).bind (fun l => l.lookup i)
/-- method, form (0 virtual, 1 static, 2 constructor, 3 static of a nest mate, 4 constructor of a nest mate, 5 of a class above by the receiver, 6 super), the receiver's class, how many arguments -/
def LKm_0 : List (Nat × (Nat × Nat × Nat × Nat)) := [(3, (290, 2, 0, 0)), (34, (75, 3, 0, 1)), (38, (16, 0, 3, 3))]
def LKm_1 : List (Nat × (Nat × Nat × Nat × Nat)) := [(3, (290, 2, 0, 0))]
def LKm_2 : List (Nat × (Nat × Nat × Nat × Nat)) := [(3, (290, 2, 0, 0)), (24, (40, 2, 0, 0)), (25, (43, 0, 6, 1)), (29, (322, 1, 0, 2))]
def LKm_3 : List (Nat × (Nat × Nat × Nat × Nat)) := [(3, (290, 2, 0, 0)), (36, (70, 3, 0, 4)), (40, (321, 1, 0, 2))]
def LKm_4 : List (Nat × (Nat × Nat × Nat × Nat)) := [(3, (290, 2, 0, 0)), (45, (14, 4, 0, 0)), (46, (21, 0, 4, 2)), (50, (69, 3, 0, 1)), (71, (22, 0, 4, 5)), (75, (25, 0, 4, 1)), (79, (26, 0, 4, 0)), (83, (322, 1, 0, 2)), (96, (15, 0, 3, 1)), (100, (23, 0, 4, 1)), (104, (16, 0, 3, 3)), (113, (17, 0, 3, 1)), (123, (27, 0, 4, 2))]
def LKm_5 : List (Nat × (Nat × Nat × Nat × Nat)) := [(3, (290, 2, 0, 0)), (31, (7, 4, 0, 0)), (32, (32, 0, 5, 1)), (36, (38, 0, 5, 1)), (54, (33, 0, 5, 2)), (62, (321, 1, 0, 2)), (68, (310, 0, 10, 0)), (73, (314, 0, 10, 1)), (77, (34, 0, 5, 1)), (81, (35, 0, 5, 0)), (84, (36, 0, 5, 0)), (87, (37, 0, 5, 0)), (90, (73, 3, 0, 1))]
def LKm_6 : List (Nat × (Nat × Nat × Nat × Nat)) := [(3, (290, 2, 0, 0)), (47, (14, 4, 0, 0)), (48, (0, 4, 0, 0)), (49, (15, 0, 3, 1)), (53, (2, 0, 0, 1)), (62, (74, 3, 0, 1)), (66, (75, 3, 0, 1)), (69, (76, 3, 0, 1)), (96, (41, 0, 6, 1)), (100, (46, 0, 6, 1)), (103, (69, 3, 0, 1)), (106, (42, 0, 6, 1)), (110, (3, 0, 0, 0)), (114, (1, 0, 0, 0)), (121, (52, 0, 6, 1)), (124, (55, 0, 6, 2)), (128, (56, 0, 6, 2)), (131, (4, 0, 0, 1)), (135, (17, 0, 3, 1)), (143, (5, 0, 0, 1)), (150, (70, 3, 0, 4)), (154, (18, 0, 3, 1)), (158, (6, 0, 0, 1))]
def LKm_7 : List (Nat × (Nat × Nat × Nat × Nat)) := [(1, (290, 2, 0, 0)), (9, (40, 2, 0, 0)), (25, (8, 2, 0, 0)), (32, (19, 2, 0, 0)), (39, (28, 2, 0, 0)), (46, (303, 2, 0, 0)), (58, (9, 0, 2, 1)), (62, (73, 1, 0, 1)), (66, (44, 0, 6, 6)), (70, (77, 0, 7, 1)), (74, (45, 0, 6, 1)), (77, (47, 0, 6, 2)), (81, (48, 0, 6, 1)), (84, (49, 0, 6, 2)), (87, (50, 0, 6, 3)), (91, (51, 0, 6, 2)), (94, (53, 0, 6, 2)), (97, (54, 0, 6, 2)), (100, (57, 0, 6, 1)), (103, (58, 0, 6, 2)), (109, (41, 0, 6, 1)), (113, (89, 0, 7, 1)), (121, (90, 1, 0, 1)), (141, (59, 0, 6, 1)), (152, (96, 1, 0, 1)), (155, (98, 0, 7, 1)), (164, (52, 0, 6, 1)), (167, (76, 1, 0, 1)), (186, (3, 0, 0, 0)), (190, (42, 0, 6, 1)), (193, (55, 0, 6, 2)), (197, (56, 0, 6, 2)), (200, (4, 0, 0, 1)), (207, (20, 0, 4, 2)), (211, (24, 0, 4, 2)), (241, (60, 0, 6, 1)), (244, (1, 0, 0, 0)), (248, (64, 0, 7, 0)), (252, (65, 0, 7, 0)), (255, (304, 0, 9, 1)), (259, (306, 0, 9, 1)), (263, (308, 0, 9, 1)), (268, (305, 0, 9, 1)), (271, (307, 0, 9, 0)), (277, (309, 0, 9, 1)), (280, (29, 0, 5, 0)), (286, (30, 0, 5, 1)), (288, (31, 0, 5, 0)), (291, (39, 0, 5, 0)), (297, (120, 0, 7, 0)), (300, (11, 0, 2, 1)), (306, (10, 0, 2, 0)), (311, (12, 0, 2, 1)), (314, (43, 0, 6, 1)), (317, (13, 0, 2, 0)), (324, (121, 0, 7, 1)), (342, (323, 5, 11, 0)), (347, (69, 1, 0, 1)), (350, (75, 1, 0, 1)), (353, (320, 1, 0, 1))]
def LKm_8 : List (Nat × (Nat × Nat × Nat × Nat)) := [(1, (290, 2, 0, 0)), (81, (130, 1, 0, 4)), (85, (140, 0, 8, 2)), (89, (132, 1, 0, 3)), (93, (133, 1, 0, 1)), (97, (134, 1, 0, 1)), (100, (129, 0, 8, 0)), (103, (131, 0, 8, 6)), (107, (135, 0, 8, 1)), (111, (136, 0, 8, 6)), (114, (137, 0, 8, 1)), (117, (139, 0, 8, 1)), (120, (141, 0, 8, 1)), (123, (144, 1, 0, 1)), (126, (145, 0, 8, 1)), (129, (143, 0, 8, 2)), (132, (146, 0, 8, 2)), (135, (148, 0, 8, 1)), (138, (149, 0, 8, 1)), (141, (151, 0, 8, 2)), (144, (152, 0, 8, 2)), (147, (156, 0, 8, 2)), (150, (155, 0, 8, 1)), (153, (157, 0, 8, 1)), (156, (159, 0, 8, 3)), (160, (154, 0, 8, 3)), (164, (158, 0, 8, 3)), (167, (163, 0, 8, 1)), (170, (161, 0, 8, 3)), (173, (162, 0, 8, 3)), (176, (172, 1, 0, 2)), (179, (171, 0, 8, 2)), (182, (167, 0, 8, 2)), (186, (168, 0, 8, 2)), (189, (170, 0, 8, 2)), (192, (166, 0, 8, 2)), (195, (169, 0, 8, 2)), (198, (174, 0, 8, 1)), (201, (176, 1, 0, 2)), (204, (177, 0, 8, 2)), (207, (179, 0, 8, 1)), (210, (183, 0, 8, 1)), (214, (182, 0, 8, 2)), (217, (193, 0, 8, 2)), (220, (199, 0, 8, 2)), (223, (208, 0, 8, 2)), (227, (205, 0, 8, 1)), (230, (206, 0, 8, 1)), (234, (207, 0, 8, 0)), (238, (204, 0, 8, 1)), (241, (203, 0, 8, 1)), (245, (218, 0, 8, 2)), (248, (222, 0, 8, 1)), (251, (221, 0, 8, 1)), (254, (233, 0, 8, 0)), (258, (231, 1, 0, 7)), (262, (230, 1, 0, 2)), (265, (235, 0, 8, 1)), (268, (236, 0, 8, 2)), (271, (232, 0, 8, 1)), (274, (237, 0, 8, 0)), (277, (229, 0, 8, 0)), (280, (234, 0, 8, 0)), (283, (238, 0, 8, 1)), (286, (228, 0, 8, 0)), (289, (227, 0, 8, 0)), (292, (239, 0, 8, 1)), (295, (241, 0, 8, 1))]
def LKm_9 : List (Nat × (Nat × Nat × Nat × Nat)) := [(7, (72, 0, 7, 6)), (17, (78, 0, 7, 1)), (23, (79, 0, 7, 2)), (29, (80, 0, 7, 1)), (32, (81, 0, 7, 2)), (36, (82, 0, 7, 3)), (42, (83, 0, 7, 2)), (45, (84, 0, 7, 2)), (48, (85, 0, 7, 2)), (51, (86, 0, 7, 1)), (54, (87, 0, 7, 2)), (57, (88, 0, 7, 1)), (61, (91, 0, 7, 1)), (64, (92, 0, 7, 1)), (67, (93, 0, 7, 1)), (70, (94, 0, 7, 1)), (73, (95, 0, 7, 1)), (77, (97, 0, 7, 2)), (81, (99, 0, 7, 1)), (84, (100, 0, 7, 1)), (87, (101, 0, 7, 1)), (90, (102, 0, 7, 1)), (93, (103, 0, 7, 1)), (96, (104, 0, 7, 1)), (100, (105, 0, 7, 1)), (103, (106, 0, 7, 2)), (107, (107, 0, 7, 2)), (110, (108, 0, 7, 1)), (113, (109, 0, 7, 1)), (116, (110, 0, 7, 1)), (119, (111, 0, 7, 2)), (122, (112, 0, 7, 1)), (125, (113, 0, 7, 0)), (131, (114, 0, 7, 1)), (134, (115, 0, 7, 1)), (137, (116, 0, 7, 1)), (140, (117, 0, 7, 1)), (143, (118, 0, 7, 1)), (146, (119, 0, 7, 0)), (150, (122, 0, 7, 0)), (153, (123, 0, 7, 0)), (156, (124, 0, 7, 0)), (159, (125, 0, 7, 0)), (162, (61, 2, 0, 0)), (165, (126, 2, 0, 0)), (166, (246, 1, 0, 8)), (171, (128, 0, 8, 6)), (172, (127, 0, 8, 0)), (175, (247, 1, 0, 3)), (178, (138, 0, 8, 1)), (179, (248, 1, 0, 4)), (182, (142, 0, 8, 2)), (183, (249, 1, 0, 3)), (185, (147, 0, 8, 1)), (186, (250, 1, 0, 4)), (189, (150, 0, 8, 2)), (190, (251, 1, 0, 5)), (193, (153, 0, 8, 3)), (194, (252, 1, 0, 4)), (196, (160, 0, 8, 2)), (197, (253, 1, 0, 4)), (199, (164, 0, 8, 2)), (200, (254, 1, 0, 4)), (202, (165, 0, 8, 2)), (203, (255, 1, 0, 3)), (205, (173, 0, 8, 1)), (206, (256, 1, 0, 4)), (208, (175, 0, 8, 2)), (209, (62, 0, 7, 0)), (212, (178, 0, 8, 0)), (213, (63, 0, 7, 1)), (216, (180, 0, 8, 1)), (217, (257, 1, 0, 3)), (219, (181, 0, 8, 1)), (220, (258, 1, 0, 3)), (222, (184, 0, 8, 1)), (223, (259, 1, 0, 3)), (225, (185, 0, 8, 1)), (226, (260, 1, 0, 3)), (228, (186, 0, 8, 1)), (229, (261, 1, 0, 3)), (231, (187, 0, 8, 1)), (232, (262, 1, 0, 3)), (235, (188, 0, 8, 1)), (236, (263, 1, 0, 4)), (239, (189, 0, 8, 2)), (240, (264, 1, 0, 3)), (242, (190, 0, 8, 1)), (243, (265, 1, 0, 3)), (245, (191, 0, 8, 1)), (246, (266, 1, 0, 3)), (248, (192, 0, 8, 1)), (249, (267, 1, 0, 3)), (251, (194, 0, 8, 1)), (252, (268, 1, 0, 3)), (254, (195, 0, 8, 1)), (255, (269, 1, 0, 3)), (257, (196, 0, 8, 1)), (258, (270, 1, 0, 3)), (260, (197, 0, 8, 1)), (261, (271, 1, 0, 4)), (263, (198, 0, 8, 2)), (264, (272, 1, 0, 4)), (266, (200, 0, 8, 2)), (267, (273, 1, 0, 3)), (269, (201, 0, 8, 1)), (270, (274, 1, 0, 3)), (272, (202, 0, 8, 1)), (273, (275, 1, 0, 3)), (275, (209, 0, 8, 1)), (276, (276, 1, 0, 4)), (278, (210, 0, 8, 2)), (279, (277, 1, 0, 3)), (281, (211, 0, 8, 1)), (282, (64, 0, 7, 0)), (286, (212, 0, 8, 0)), (287, (65, 0, 7, 0)), (290, (213, 0, 8, 0)), (291, (66, 0, 7, 0)), (294, (214, 0, 8, 0)), (295, (278, 1, 0, 2)), (298, (215, 0, 8, 0)), (299, (67, 0, 7, 0)), (303, (216, 0, 8, 0)), (304, (279, 1, 0, 3)), (306, (217, 0, 8, 1)), (307, (68, 0, 7, 0)), (311, (219, 0, 8, 0)), (312, (280, 1, 0, 3)), (314, (220, 0, 8, 1)), (315, (281, 1, 0, 3)), (317, (223, 0, 8, 1)), (318, (282, 1, 0, 3)), (320, (224, 0, 8, 1)), (321, (283, 1, 0, 3)), (323, (225, 0, 8, 1)), (324, (284, 1, 0, 2)), (327, (226, 0, 8, 0)), (328, (285, 1, 0, 2)), (330, (240, 0, 8, 0)), (331, (286, 1, 0, 2)), (333, (242, 0, 8, 0)), (334, (287, 1, 0, 2)), (336, (243, 0, 8, 0)), (337, (71, 0, 7, 0)), (340, (244, 0, 8, 0)), (341, (288, 1, 0, 2)), (343, (245, 0, 8, 0))]
def LKm_10 : List (Nat × (Nat × Nat × Nat × Nat)) := []
def LKm_11 : List (Nat × (Nat × Nat × Nat × Nat)) := [(3, (290, 2, 0, 0)), (32, (310, 0, 10, 0)), (40, (311, 0, 10, 0)), (83, (296, 5, 9, 0)), (100, (294, 5, 9, 1)), (104, (295, 5, 9, 1)), (108, (324, 1, 0, 2)), (114, (325, 1, 0, 3)), (138, (322, 1, 0, 2)), (144, (313, 1, 0, 2)), (191, (316, 1, 0, 1)), (208, (297, 5, 9, 2)), (245, (318, 1, 0, 1)), (248, (319, 1, 0, 3)), (397, (298, 5, 9, 1)), (399, (312, 0, 10, 3))]
def LKm_12 : List (Nat × (Nat × Nat × Nat × Nat)) := [(1, (291, 2, 0, 1)), (29, (293, 6, 9, 1)), (50, (301, 6, 9, 1)), (53, (299, 6, 9, 1)), (329, (302, 6, 9, 1)), (333, (292, 6, 9, 1)), (343, (300, 6, 9, 0))]
def LKm_13 : List (Nat × (Nat × Nat × Nat × Nat)) := [(1, (290, 2, 0, 0)), (335, (311, 0, 10, 0)), (492, (315, 0, 10, 0)), (495, (317, 1, 0, 2)), (549, (300, 5, 9, 0)), (1047, (296, 5, 9, 0)), (1059, (326, 1, 0, 3))]
def LKm_14 : List (Nat × (Nat × Nat × Nat × Nat)) := [(9, (313, 1, 0, 2))]
def LKm_15 : List (Nat × (Nat × Nat × Nat × Nat)) := []
def LKm_16 : List (Nat × (Nat × Nat × Nat × Nat)) := []
def LKm_17 : List (Nat × (Nat × Nat × Nat × Nat)) := []
def LKm_18 : List (Nat × (Nat × Nat × Nat × Nat)) := [(47, (303, 2, 0, 0)), (50, (305, 0, 9, 1)), (54, (306, 0, 9, 1)), (304, (322, 1, 0, 2))]
def LKm_19 : List (Nat × (Nat × Nat × Nat × Nat)) := [(194, (321, 1, 0, 2))]
def LKm_20 : List (Nat × (Nat × Nat × Nat × Nat)) := []
def LKmT : List (List (Nat × (Nat × Nat × Nat × Nat))) := [LKm_0, LKm_1, LKm_2, LKm_3, LKm_4, LKm_5, LKm_6, LKm_7, LKm_8, LKm_9, LKm_10, LKm_11, LKm_12, LKm_13, LKm_14, LKm_15, LKm_16, LKm_17, LKm_18, LKm_19, LKm_20]
def LKm (o i : Nat) : Option ((Nat × Nat × Nat × Nat)) := (LKmT[o]?).bind (fun l => l.lookup i)
def LKc_0 : List (Nat × Nat) := []
def LKc_1 : List (Nat × Nat) := []
def LKc_2 : List (Nat × Nat) := [(11, 6)]
def LKc_3 : List (Nat × Nat) := []
def LKc_4 : List (Nat × Nat) := [(9, 3)]
def LKc_5 : List (Nat × Nat) := [(22, 1)]
def LKc_6 : List (Nat × Nat) := [(9, 3), (24, 0)]
def LKc_7 : List (Nat × Nat) := [(7, 6), (23, 2), (30, 4), (37, 5), (44, 9)]
def LKc_8 : List (Nat × Nat) := []
def LKc_9 : List (Nat × Nat) := [(8, 7), (163, 8)]
def LKc_10 : List (Nat × Nat) := []
def LKc_11 : List (Nat × Nat) := []
def LKc_12 : List (Nat × Nat) := []
def LKc_13 : List (Nat × Nat) := []
def LKc_14 : List (Nat × Nat) := []
def LKc_15 : List (Nat × Nat) := []
def LKc_16 : List (Nat × Nat) := []
def LKc_17 : List (Nat × Nat) := []
def LKc_18 : List (Nat × Nat) := [(45, 9)]
def LKc_19 : List (Nat × Nat) := []
def LKc_20 : List (Nat × Nat) := []
def LKcT : List (List (Nat × Nat)) := [LKc_0, LKc_1, LKc_2, LKc_3, LKc_4, LKc_5, LKc_6, LKc_7, LKc_8, LKc_9, LKc_10, LKc_11, LKc_12, LKc_13, LKc_14, LKc_15, LKc_16, LKc_17, LKc_18, LKc_19, LKc_20]
def LKc (o i : Nat) : Option (Nat) := (LKcT[o]?).bind (fun l => l.lookup i)
def LKa_0 : List (Nat × Nat) := []
def LKa_1 : List (Nat × Nat) := []
def LKa_2 : List (Nat × Nat) := [(11, 6)]
def LKa_3 : List (Nat × Nat) := []
def LKa_4 : List (Nat × Nat) := [(9, 3)]
def LKa_5 : List (Nat × Nat) := [(22, 1)]
def LKa_6 : List (Nat × Nat) := [(9, 3), (24, 0)]
def LKa_7 : List (Nat × Nat) := [(7, 6)]
def LKa_8 : List (Nat × Nat) := []
def LKa_9 : List (Nat × Nat) := []
def LKa_10 : List (Nat × Nat) := []
def LKa_11 : List (Nat × Nat) := []
def LKa_12 : List (Nat × Nat) := []
def LKa_13 : List (Nat × Nat) := []
def LKa_14 : List (Nat × Nat) := []
def LKa_15 : List (Nat × Nat) := []
def LKa_16 : List (Nat × Nat) := []
def LKa_17 : List (Nat × Nat) := []
def LKa_18 : List (Nat × Nat) := []
def LKa_19 : List (Nat × Nat) := []
def LKa_20 : List (Nat × Nat) := []
def LKaT : List (List (Nat × Nat)) := [LKa_0, LKa_1, LKa_2, LKa_3, LKa_4, LKa_5, LKa_6, LKa_7, LKa_8, LKa_9, LKa_10, LKa_11, LKa_12, LKa_13, LKa_14, LKa_15, LKa_16, LKa_17, LKa_18, LKa_19, LKa_20]
def LKa (o i : Nat) : Option (Nat) := (LKaT[o]?).bind (fun l => l.lookup i)
def LKs_0 : List (Nat × Nat) := []
def LKs_1 : List (Nat × Nat) := [(9, 5)]
def LKs_2 : List (Nat × Nat) := []
def LKs_3 : List (Nat × Nat) := []
def LKs_4 : List (Nat × Nat) := []
def LKs_5 : List (Nat × Nat) := [(40, 3)]
def LKs_6 : List (Nat × Nat) := []
def LKs_7 : List (Nat × Nat) := [(266, 7), (333, 4)]
def LKs_8 : List (Nat × Nat) := []
def LKs_9 : List (Nat × Nat) := []
def LKs_10 : List (Nat × Nat) := []
def LKs_11 : List (Nat × Nat) := [(18, 0)]
def LKs_12 : List (Nat × Nat) := []
def LKs_13 : List (Nat × Nat) := [(38, 0), (1053, 6)]
def LKs_14 : List (Nat × Nat) := []
def LKs_15 : List (Nat × Nat) := [(83, 1), (87, 2)]
def LKs_16 : List (Nat × Nat) := []
def LKs_17 : List (Nat × Nat) := []
def LKs_18 : List (Nat × Nat) := []
def LKs_19 : List (Nat × Nat) := []
def LKs_20 : List (Nat × Nat) := []
def LKsT : List (List (Nat × Nat)) := [LKs_0, LKs_1, LKs_2, LKs_3, LKs_4, LKs_5, LKs_6, LKs_7, LKs_8, LKs_9, LKs_10, LKs_11, LKs_12, LKs_13, LKs_14, LKs_15, LKs_16, LKs_17, LKs_18, LKs_19, LKs_20]
def LKs (o i : Nat) : Option (Nat) := (LKsT[o]?).bind (fun l => l.lookup i)
def LKk_0 : List (Nat × Value) := []
def LKk_1 : List (Nat × Value) := []
def LKk_2 : List (Nat × Value) := []
def LKk_3 : List (Nat × Value) := []
def LKk_4 : List (Nat × Value) := []
def LKk_5 : List (Nat × Value) := []
def LKk_6 : List (Nat × Value) := []
def LKk_7 : List (Nat × Value) := [(223, .long 10), (229, .long 2), (240, .float 1086324736)]
def LKk_8 : List (Nat × Value) := [(244, .float 1086324736)]
def LKk_9 : List (Nat × Value) := []
def LKk_10 : List (Nat × Value) := []
def LKk_11 : List (Nat × Value) := [(39, .int 2147483647)]
def LKk_12 : List (Nat × Value) := []
def LKk_13 : List (Nat × Value) := []
def LKk_14 : List (Nat × Value) := []
def LKk_15 : List (Nat × Value) := []
def LKk_16 : List (Nat × Value) := []
def LKk_17 : List (Nat × Value) := []
def LKk_18 : List (Nat × Value) := []
def LKk_19 : List (Nat × Value) := [(200, .int 2147483639)]
def LKk_20 : List (Nat × Value) := []
def LKkT : List (List (Nat × Value)) := [LKk_0, LKk_1, LKk_2, LKk_3, LKk_4, LKk_5, LKk_6, LKk_7, LKk_8, LKk_9, LKk_10, LKk_11, LKk_12, LKk_13, LKk_14, LKk_15, LKk_16, LKk_17, LKk_18, LKk_19, LKk_20]
def LKk (o i : Nat) : Option (Value) := (LKkT[o]?).bind (fun l => l.lookup i)
def LKx_0 : List (Nat × String) := []
def LKx_1 : List (Nat × String) := []
def LKx_2 : List (Nat × String) := []
def LKx_3 : List (Nat × String) := []
def LKx_4 : List (Nat × String) := []
def LKx_5 : List (Nat × String) := []
def LKx_6 : List (Nat × String) := []
def LKx_7 : List (Nat × String) := [(134, "java/util/NoSuchElementException"), (171, "java/lang/IndexOutOfBoundsException"), (237, "java/lang/ArithmeticException"), (283, "java/lang/IllegalStateException"), (294, "java/lang/IllegalArgumentException"), (303, "java/lang/UnsupportedOperationException")]
def LKx_8 : List (Nat × String) := []
def LKx_9 : List (Nat × String) := [(13, "java/lang/IllegalArgumentException"), (15, "java/lang/IllegalStateException"), (21, "java/util/NoSuchElementException"), (27, "java/lang/IndexOutOfBoundsException"), (40, "java/lang/UnsupportedOperationException"), (129, "java/lang/ArithmeticException")]
def LKx_10 : List (Nat × String) := []
def LKx_11 : List (Nat × String) := [(129, "java/lang/StringIndexOutOfBoundsException")]
def LKx_12 : List (Nat × String) := []
def LKx_13 : List (Nat × String) := []
def LKx_14 : List (Nat × String) := []
def LKx_15 : List (Nat × String) := []
def LKx_16 : List (Nat × String) := []
def LKx_17 : List (Nat × String) := []
def LKx_18 : List (Nat × String) := [(43, "java/lang/IllegalArgumentException"), (68, "java/lang/ArrayIndexOutOfBoundsException")]
def LKx_19 : List (Nat × String) := []
def LKx_20 : List (Nat × String) := []
def LKxT : List (List (Nat × String)) := [LKx_0, LKx_1, LKx_2, LKx_3, LKx_4, LKx_5, LKx_6, LKx_7, LKx_8, LKx_9, LKx_10, LKx_11, LKx_12, LKx_13, LKx_14, LKx_15, LKx_16, LKx_17, LKx_18, LKx_19, LKx_20]
def LKx (o i : Nat) : Option (String) := (LKxT[o]?).bind (fun l => l.lookup i)
def LKy_0 : List (Nat × Nat) := [(28, 1)]
def LKy_1 : List (Nat × Nat) := []
def LKy_2 : List (Nat × Nat) := []
def LKy_3 : List (Nat × Nat) := []
def LKy_4 : List (Nat × Nat) := [(117, 1)]
def LKy_5 : List (Nat × Nat) := []
def LKy_6 : List (Nat × Nat) := [(56, 1)]
def LKy_7 : List (Nat × Nat) := []
def LKy_8 : List (Nat × Nat) := []
def LKy_9 : List (Nat × Nat) := []
def LKy_10 : List (Nat × Nat) := []
def LKy_11 : List (Nat × Nat) := []
def LKy_12 : List (Nat × Nat) := []
def LKy_13 : List (Nat × Nat) := [(212, 1)]
def LKy_14 : List (Nat × Nat) := []
def LKy_15 : List (Nat × Nat) := []
def LKy_16 : List (Nat × Nat) := []
def LKy_17 : List (Nat × Nat) := []
def LKy_18 : List (Nat × Nat) := [(150, 1)]
def LKy_19 : List (Nat × Nat) := []
def LKy_20 : List (Nat × Nat) := []
def LKyT : List (List (Nat × Nat)) := [LKy_0, LKy_1, LKy_2, LKy_3, LKy_4, LKy_5, LKy_6, LKy_7, LKy_8, LKy_9, LKy_10, LKy_11, LKy_12, LKy_13, LKy_14, LKy_15, LKy_16, LKy_17, LKy_18, LKy_19, LKy_20]
def LKy (o i : Nat) : Option (Nat) := (LKyT[o]?).bind (fun l => l.lookup i)
theorem d0_0 : decode prog_3_method_1_code 0 = .ok (.aload_n 0, 1) := by decide +kernel
theorem d0_1 : decode prog_3_method_1_code 1 = .ok (.invokespecial 3, 3) := by decide +kernel
theorem d0_4 : decode prog_3_method_1_code 4 = .ok (.aload_n 0, 1) := by decide +kernel
theorem d0_5 : decode prog_3_method_1_code 5 = .ok (.iconst 4, 1) := by decide +kernel
theorem d0_6 : decode prog_3_method_1_code 6 = .ok (.newarray .int, 2) := by decide +kernel
theorem d0_8 : decode prog_3_method_1_code 8 = .ok (.putfield 9, 3) := by decide +kernel
theorem d0_11 : decode prog_3_method_1_code 11 = .ok (.return_, 1) := by decide +kernel
theorem d1_0 : decode prog_3_method_4_code 0 = .ok (.iconst 0, 1) := by decide +kernel
theorem d1_1 : decode prog_3_method_4_code 1 = .ok (.istore_n 1, 1) := by decide +kernel
theorem d1_2 : decode prog_3_method_4_code 2 = .ok (.aload_n 0, 1) := by decide +kernel
theorem d1_3 : decode prog_3_method_4_code 3 = .ok (.getfield 9, 3) := by decide +kernel
theorem d1_6 : decode prog_3_method_4_code 6 = .ok (.astore_n 2, 1) := by decide +kernel
theorem d1_7 : decode prog_3_method_4_code 7 = .ok (.aload_n 2, 1) := by decide +kernel
theorem d1_8 : decode prog_3_method_4_code 8 = .ok (.arraylength, 1) := by decide +kernel
theorem d1_9 : decode prog_3_method_4_code 9 = .ok (.istore_n 3, 1) := by decide +kernel
theorem d1_10 : decode prog_3_method_4_code 10 = .ok (.iconst 0, 1) := by decide +kernel
theorem d1_11 : decode prog_3_method_4_code 11 = .ok (.istore 4, 2) := by decide +kernel
theorem d1_13 : decode prog_3_method_4_code 13 = .ok (.iload 4, 2) := by decide +kernel
theorem d1_15 : decode prog_3_method_4_code 15 = .ok (.iload_n 3, 1) := by decide +kernel
theorem d1_16 : decode prog_3_method_4_code 16 = .ok (.if_icmp .ge 20, 3) := by decide +kernel
theorem d1_19 : decode prog_3_method_4_code 19 = .ok (.aload_n 2, 1) := by decide +kernel
theorem d1_20 : decode prog_3_method_4_code 20 = .ok (.iload 4, 2) := by decide +kernel
theorem d1_22 : decode prog_3_method_4_code 22 = .ok (.iaload, 1) := by decide +kernel
theorem d1_23 : decode prog_3_method_4_code 23 = .ok (.istore 5, 2) := by decide +kernel
theorem d1_25 : decode prog_3_method_4_code 25 = .ok (.iload_n 1, 1) := by decide +kernel
theorem d1_26 : decode prog_3_method_4_code 26 = .ok (.iload 5, 2) := by decide +kernel
theorem d1_28 : decode prog_3_method_4_code 28 = .ok (.iadd, 1) := by decide +kernel
theorem d1_29 : decode prog_3_method_4_code 29 = .ok (.istore_n 1, 1) := by decide +kernel
theorem d1_30 : decode prog_3_method_4_code 30 = .ok (.iinc 4 1, 3) := by decide +kernel
theorem d1_33 : decode prog_3_method_4_code 33 = .ok (.goto (-20), 3) := by decide +kernel
theorem d1_36 : decode prog_3_method_4_code 36 = .ok (.iload_n 1, 1) := by decide +kernel
theorem d1_37 : decode prog_3_method_4_code 37 = .ok (.ireturn, 1) := by decide +kernel
theorem d2_0 : decode prog_3_method_2_code 0 = .ok (.aload_n 0, 1) := by decide +kernel
theorem d2_1 : decode prog_3_method_2_code 1 = .ok (.aload_n 1, 1) := by decide +kernel
theorem d2_2 : decode prog_3_method_2_code 2 = .ok (.getfield 15, 3) := by decide +kernel
theorem d2_5 : decode prog_3_method_2_code 5 = .ok (.putfield 15, 3) := by decide +kernel
theorem d2_8 : decode prog_3_method_2_code 8 = .ok (.aload_n 0, 1) := by decide +kernel
theorem d2_9 : decode prog_3_method_2_code 9 = .ok (.aload_n 1, 1) := by decide +kernel
theorem d2_10 : decode prog_3_method_2_code 10 = .ok (.getfield 19, 3) := by decide +kernel
theorem d2_13 : decode prog_3_method_2_code 13 = .ok (.putfield 19, 3) := by decide +kernel
theorem d2_16 : decode prog_3_method_2_code 16 = .ok (.aload_n 0, 1) := by decide +kernel
theorem d2_17 : decode prog_3_method_2_code 17 = .ok (.aload_n 1, 1) := by decide +kernel
theorem d2_18 : decode prog_3_method_2_code 18 = .ok (.getfield 22, 3) := by decide +kernel
theorem d2_21 : decode prog_3_method_2_code 21 = .ok (.putfield 22, 3) := by decide +kernel
theorem d2_24 : decode prog_3_method_2_code 24 = .ok (.aload_n 0, 1) := by decide +kernel
theorem d2_25 : decode prog_3_method_2_code 25 = .ok (.aload_n 1, 1) := by decide +kernel
theorem d2_26 : decode prog_3_method_2_code 26 = .ok (.getfield 25, 3) := by decide +kernel
theorem d2_29 : decode prog_3_method_2_code 29 = .ok (.putfield 25, 3) := by decide +kernel
theorem d2_32 : decode prog_3_method_2_code 32 = .ok (.aload_n 1, 1) := by decide +kernel
theorem d2_33 : decode prog_3_method_2_code 33 = .ok (.getfield 9, 3) := by decide +kernel
theorem d2_36 : decode prog_3_method_2_code 36 = .ok (.iconst 0, 1) := by decide +kernel
theorem d2_37 : decode prog_3_method_2_code 37 = .ok (.aload_n 0, 1) := by decide +kernel
theorem d2_38 : decode prog_3_method_2_code 38 = .ok (.getfield 9, 3) := by decide +kernel
theorem d2_41 : decode prog_3_method_2_code 41 = .ok (.iconst 0, 1) := by decide +kernel
theorem d2_42 : decode prog_3_method_2_code 42 = .ok (.iconst 4, 1) := by decide +kernel
theorem d2_43 : decode prog_3_method_2_code 43 = .ok (.invokestatic 28, 3) := by decide +kernel
theorem d2_46 : decode prog_3_method_2_code 46 = .ok (.return_, 1) := by decide +kernel
theorem d3_0 : decode prog_3_method_3_code 0 = .ok (.aload_n 0, 1) := by decide +kernel
theorem d3_1 : decode prog_3_method_3_code 1 = .ok (.getfield 15, 3) := by decide +kernel
theorem d3_4 : decode prog_3_method_3_code 4 = .ok (.ifCond .ne 14, 3) := by decide +kernel
theorem d3_7 : decode prog_3_method_3_code 7 = .ok (.aload_n 0, 1) := by decide +kernel
theorem d3_8 : decode prog_3_method_3_code 8 = .ok (.getfield 19, 3) := by decide +kernel
theorem d3_11 : decode prog_3_method_3_code 11 = .ok (.ifCond .ne 7, 3) := by decide +kernel
theorem d3_14 : decode prog_3_method_3_code 14 = .ok (.iconst 1, 1) := by decide +kernel
theorem d3_15 : decode prog_3_method_3_code 15 = .ok (.goto 4, 3) := by decide +kernel
theorem d3_18 : decode prog_3_method_3_code 18 = .ok (.iconst 0, 1) := by decide +kernel
theorem d3_19 : decode prog_3_method_3_code 19 = .ok (.ireturn, 1) := by decide +kernel
theorem d4_0 : decode prog_3_method_6_code 0 = .ok (.aload_n 1, 1) := by decide +kernel
theorem d4_1 : decode prog_3_method_6_code 1 = .ok (.aload_n 0, 1) := by decide +kernel
theorem d4_2 : decode prog_3_method_6_code 2 = .ok (.getfield 15, 3) := by decide +kernel
theorem d4_5 : decode prog_3_method_6_code 5 = .ok (.aload_n 0, 1) := by decide +kernel
theorem d4_6 : decode prog_3_method_6_code 6 = .ok (.getfield 19, 3) := by decide +kernel
theorem d4_9 : decode prog_3_method_6_code 9 = .ok (.aload_n 0, 1) := by decide +kernel
theorem d4_10 : decode prog_3_method_6_code 10 = .ok (.getfield 22, 3) := by decide +kernel
theorem d4_13 : decode prog_3_method_6_code 13 = .ok (.invokevirtual 38, 3) := by decide +kernel
theorem d4_16 : decode prog_3_method_6_code 16 = .ok (.ireturn, 1) := by decide +kernel
theorem d5_0 : decode prog_3_method_5_code 0 = .ok (.iload_n 1, 1) := by decide +kernel
theorem d5_1 : decode prog_3_method_5_code 1 = .ok (.invokestatic 34, 3) := by decide +kernel
theorem d5_4 : decode prog_3_method_5_code 4 = .ok (.ifCond .eq 13, 3) := by decide +kernel
theorem d5_7 : decode prog_3_method_5_code 7 = .ok (.aload_n 0, 1) := by decide +kernel
theorem d5_8 : decode prog_3_method_5_code 8 = .ok (.getfield 9, 3) := by decide +kernel
theorem d5_11 : decode prog_3_method_5_code 11 = .ok (.iload_n 1, 1) := by decide +kernel
theorem d5_12 : decode prog_3_method_5_code 12 = .ok (.dup2, 1) := by decide +kernel
theorem d5_13 : decode prog_3_method_5_code 13 = .ok (.iaload, 1) := by decide +kernel
theorem d5_14 : decode prog_3_method_5_code 14 = .ok (.iconst 1, 1) := by decide +kernel
theorem d5_15 : decode prog_3_method_5_code 15 = .ok (.isub, 1) := by decide +kernel
theorem d5_16 : decode prog_3_method_5_code 16 = .ok (.iastore, 1) := by decide +kernel
theorem d5_17 : decode prog_3_method_5_code 17 = .ok (.return_, 1) := by decide +kernel
theorem d6_0 : decode prog_3_method_7_code 0 = .ok (.aload_n 0, 1) := by decide +kernel
theorem d6_1 : decode prog_3_method_7_code 1 = .ok (.getfield 25, 3) := by decide +kernel
theorem d6_4 : decode prog_3_method_7_code 4 = .ok (.aload_n 1, 1) := by decide +kernel
theorem d6_5 : decode prog_3_method_7_code 5 = .ok (.getfield 25, 3) := by decide +kernel
theorem d6_8 : decode prog_3_method_7_code 8 = .ok (.if_icmp .gt 25, 3) := by decide +kernel
theorem d6_11 : decode prog_3_method_7_code 11 = .ok (.aload_n 0, 1) := by decide +kernel
theorem d6_12 : decode prog_3_method_7_code 12 = .ok (.getfield 25, 3) := by decide +kernel
theorem d6_15 : decode prog_3_method_7_code 15 = .ok (.aload_n 1, 1) := by decide +kernel
theorem d6_16 : decode prog_3_method_7_code 16 = .ok (.getfield 25, 3) := by decide +kernel
theorem d6_19 : decode prog_3_method_7_code 19 = .ok (.if_icmp .ne 18, 3) := by decide +kernel
theorem d6_22 : decode prog_3_method_7_code 22 = .ok (.aload_n 0, 1) := by decide +kernel
theorem d6_23 : decode prog_3_method_7_code 23 = .ok (.getfield 22, 3) := by decide +kernel
theorem d6_26 : decode prog_3_method_7_code 26 = .ok (.aload_n 1, 1) := by decide +kernel
theorem d6_27 : decode prog_3_method_7_code 27 = .ok (.getfield 22, 3) := by decide +kernel
theorem d6_30 : decode prog_3_method_7_code 30 = .ok (.if_icmp .ge 7, 3) := by decide +kernel
theorem d6_33 : decode prog_3_method_7_code 33 = .ok (.iconst 1, 1) := by decide +kernel
theorem d6_34 : decode prog_3_method_7_code 34 = .ok (.goto 4, 3) := by decide +kernel
theorem d6_37 : decode prog_3_method_7_code 37 = .ok (.iconst 0, 1) := by decide +kernel
theorem d6_38 : decode prog_3_method_7_code 38 = .ok (.ireturn, 1) := by decide +kernel
theorem d7_0 : decode prog_4_method_1_code 0 = .ok (.aload_n 0, 1) := by decide +kernel
theorem d7_1 : decode prog_4_method_1_code 1 = .ok (.invokespecial 3, 3) := by decide +kernel
theorem d7_4 : decode prog_4_method_1_code 4 = .ok (.aload_n 0, 1) := by decide +kernel
theorem d7_5 : decode prog_4_method_1_code 5 = .ok (.getstatic 9, 3) := by decide +kernel
theorem d7_8 : decode prog_4_method_1_code 8 = .ok (.putfield 15, 3) := by decide +kernel
theorem d7_11 : decode prog_4_method_1_code 11 = .ok (.aload_n 0, 1) := by decide +kernel
theorem d7_12 : decode prog_4_method_1_code 12 = .ok (.bipush 6, 2) := by decide +kernel
theorem d7_14 : decode prog_4_method_1_code 14 = .ok (.newarray .int, 2) := by decide +kernel
theorem d7_16 : decode prog_4_method_1_code 16 = .ok (.putfield 20, 3) := by decide +kernel
theorem d7_19 : decode prog_4_method_1_code 19 = .ok (.return_, 1) := by decide +kernel
theorem d8_0 : decode prog_5_method_1_code 0 = .ok (.aload_n 0, 1) := by decide +kernel
theorem d8_1 : decode prog_5_method_1_code 1 = .ok (.invokespecial 3, 3) := by decide +kernel
theorem d8_4 : decode prog_5_method_1_code 4 = .ok (.aload_n 0, 1) := by decide +kernel
theorem d8_5 : decode prog_5_method_1_code 5 = .ok (.bipush 9, 2) := by decide +kernel
theorem d8_7 : decode prog_5_method_1_code 7 = .ok (.anewarray 11, 3) := by decide +kernel
theorem d8_10 : decode prog_5_method_1_code 10 = .ok (.putfield 13, 3) := by decide +kernel
theorem d8_13 : decode prog_5_method_1_code 13 = .ok (.aload_n 0, 1) := by decide +kernel
theorem d8_14 : decode prog_5_method_1_code 14 = .ok (.iconst 0, 1) := by decide +kernel
theorem d8_15 : decode prog_5_method_1_code 15 = .ok (.putfield 17, 3) := by decide +kernel
theorem d8_18 : decode prog_5_method_1_code 18 = .ok (.aload_n 0, 1) := by decide +kernel
theorem d8_19 : decode prog_5_method_1_code 19 = .ok (.iconst 0, 1) := by decide +kernel
theorem d8_20 : decode prog_5_method_1_code 20 = .ok (.putfield 21, 3) := by decide +kernel
theorem d8_23 : decode prog_5_method_1_code 23 = .ok (.iconst 0, 1) := by decide +kernel
theorem d8_24 : decode prog_5_method_1_code 24 = .ok (.istore_n 1, 1) := by decide +kernel
theorem d8_25 : decode prog_5_method_1_code 25 = .ok (.iload_n 1, 1) := by decide +kernel
theorem d8_26 : decode prog_5_method_1_code 26 = .ok (.bipush 9, 2) := by decide +kernel
theorem d8_28 : decode prog_5_method_1_code 28 = .ok (.if_icmp .ge 22, 3) := by decide +kernel
theorem d8_31 : decode prog_5_method_1_code 31 = .ok (.aload_n 0, 1) := by decide +kernel
theorem d8_32 : decode prog_5_method_1_code 32 = .ok (.getfield 13, 3) := by decide +kernel
theorem d8_35 : decode prog_5_method_1_code 35 = .ok (.iload_n 1, 1) := by decide +kernel
theorem d8_36 : decode prog_5_method_1_code 36 = .ok (.new 11, 3) := by decide +kernel
theorem d8_39 : decode prog_5_method_1_code 39 = .ok (.dup, 1) := by decide +kernel
theorem d8_40 : decode prog_5_method_1_code 40 = .ok (.invokespecial 24, 3) := by decide +kernel
theorem d8_43 : decode prog_5_method_1_code 43 = .ok (.aastore, 1) := by decide +kernel
theorem d8_44 : decode prog_5_method_1_code 44 = .ok (.iinc 1 1, 3) := by decide +kernel
theorem d8_47 : decode prog_5_method_1_code 47 = .ok (.goto (-22), 3) := by decide +kernel
theorem d8_50 : decode prog_5_method_1_code 50 = .ok (.return_, 1) := by decide +kernel
theorem d9_0 : decode prog_5_method_2_code 0 = .ok (.aload_n 0, 1) := by decide +kernel
theorem d9_1 : decode prog_5_method_2_code 1 = .ok (.getfield 13, 3) := by decide +kernel
theorem d9_4 : decode prog_5_method_2_code 4 = .ok (.aload_n 0, 1) := by decide +kernel
theorem d9_5 : decode prog_5_method_2_code 5 = .ok (.getfield 17, 3) := by decide +kernel
theorem d9_8 : decode prog_5_method_2_code 8 = .ok (.aaload, 1) := by decide +kernel
theorem d9_9 : decode prog_5_method_2_code 9 = .ok (.aload_n 1, 1) := by decide +kernel
theorem d9_10 : decode prog_5_method_2_code 10 = .ok (.invokevirtual 25, 3) := by decide +kernel
theorem d9_13 : decode prog_5_method_2_code 13 = .ok (.return_, 1) := by decide +kernel
theorem d10_0 : decode prog_5_method_3_code 0 = .ok (.aload_n 0, 1) := by decide +kernel
theorem d10_1 : decode prog_5_method_3_code 1 = .ok (.aload_n 0, 1) := by decide +kernel
theorem d10_2 : decode prog_5_method_3_code 2 = .ok (.getfield 17, 3) := by decide +kernel
theorem d10_5 : decode prog_5_method_3_code 5 = .ok (.iconst 1, 1) := by decide +kernel
theorem d10_6 : decode prog_5_method_3_code 6 = .ok (.iadd, 1) := by decide +kernel
theorem d10_7 : decode prog_5_method_3_code 7 = .ok (.bipush 9, 2) := by decide +kernel
theorem d10_9 : decode prog_5_method_3_code 9 = .ok (.if_icmp .ge 12, 3) := by decide +kernel
theorem d10_12 : decode prog_5_method_3_code 12 = .ok (.aload_n 0, 1) := by decide +kernel
theorem d10_13 : decode prog_5_method_3_code 13 = .ok (.getfield 17, 3) := by decide +kernel
theorem d10_16 : decode prog_5_method_3_code 16 = .ok (.iconst 1, 1) := by decide +kernel
theorem d10_17 : decode prog_5_method_3_code 17 = .ok (.iadd, 1) := by decide +kernel
theorem d10_18 : decode prog_5_method_3_code 18 = .ok (.goto 4, 3) := by decide +kernel
theorem d10_21 : decode prog_5_method_3_code 21 = .ok (.iconst 0, 1) := by decide +kernel
theorem d10_22 : decode prog_5_method_3_code 22 = .ok (.putfield 17, 3) := by decide +kernel
theorem d10_25 : decode prog_5_method_3_code 25 = .ok (.aload_n 0, 1) := by decide +kernel
theorem d10_26 : decode prog_5_method_3_code 26 = .ok (.aload_n 0, 1) := by decide +kernel
theorem d10_27 : decode prog_5_method_3_code 27 = .ok (.getfield 21, 3) := by decide +kernel
theorem d10_30 : decode prog_5_method_3_code 30 = .ok (.iconst 1, 1) := by decide +kernel
theorem d10_31 : decode prog_5_method_3_code 31 = .ok (.iadd, 1) := by decide +kernel
theorem d10_32 : decode prog_5_method_3_code 32 = .ok (.bipush 8, 2) := by decide +kernel
theorem d10_34 : decode prog_5_method_3_code 34 = .ok (.invokestatic 29, 3) := by decide +kernel
theorem d10_37 : decode prog_5_method_3_code 37 = .ok (.putfield 21, 3) := by decide +kernel
theorem d10_40 : decode prog_5_method_3_code 40 = .ok (.return_, 1) := by decide +kernel
theorem d11_0 : decode prog_5_method_4_code 0 = .ok (.aload_n 1, 1) := by decide +kernel
theorem d11_1 : decode prog_5_method_4_code 1 = .ok (.aload_n 0, 1) := by decide +kernel
theorem d11_2 : decode prog_5_method_4_code 2 = .ok (.getfield 13, 3) := by decide +kernel
theorem d11_5 : decode prog_5_method_4_code 5 = .ok (.aload_n 0, 1) := by decide +kernel
theorem d11_6 : decode prog_5_method_4_code 6 = .ok (.getfield 17, 3) := by decide +kernel
theorem d11_9 : decode prog_5_method_4_code 9 = .ok (.aaload, 1) := by decide +kernel
theorem d11_10 : decode prog_5_method_4_code 10 = .ok (.invokevirtual 25, 3) := by decide +kernel
theorem d11_13 : decode prog_5_method_4_code 13 = .ok (.return_, 1) := by decide +kernel
theorem d12_0 : decode prog_5_method_5_code 0 = .ok (.aload_n 0, 1) := by decide +kernel
theorem d12_1 : decode prog_5_method_5_code 1 = .ok (.aload_n 0, 1) := by decide +kernel
theorem d12_2 : decode prog_5_method_5_code 2 = .ok (.getfield 17, 3) := by decide +kernel
theorem d12_5 : decode prog_5_method_5_code 5 = .ok (.ifCond .le 12, 3) := by decide +kernel
theorem d12_8 : decode prog_5_method_5_code 8 = .ok (.aload_n 0, 1) := by decide +kernel
theorem d12_9 : decode prog_5_method_5_code 9 = .ok (.getfield 17, 3) := by decide +kernel
theorem d12_12 : decode prog_5_method_5_code 12 = .ok (.iconst 1, 1) := by decide +kernel
theorem d12_13 : decode prog_5_method_5_code 13 = .ok (.isub, 1) := by decide +kernel
theorem d12_14 : decode prog_5_method_5_code 14 = .ok (.goto 5, 3) := by decide +kernel
theorem d12_17 : decode prog_5_method_5_code 17 = .ok (.bipush 8, 2) := by decide +kernel
theorem d12_19 : decode prog_5_method_5_code 19 = .ok (.putfield 17, 3) := by decide +kernel
theorem d12_22 : decode prog_5_method_5_code 22 = .ok (.aload_n 0, 1) := by decide +kernel
theorem d12_23 : decode prog_5_method_5_code 23 = .ok (.dup, 1) := by decide +kernel
theorem d12_24 : decode prog_5_method_5_code 24 = .ok (.getfield 21, 3) := by decide +kernel
theorem d12_27 : decode prog_5_method_5_code 27 = .ok (.iconst 1, 1) := by decide +kernel
theorem d12_28 : decode prog_5_method_5_code 28 = .ok (.isub, 1) := by decide +kernel
theorem d12_29 : decode prog_5_method_5_code 29 = .ok (.putfield 21, 3) := by decide +kernel
theorem d12_32 : decode prog_5_method_5_code 32 = .ok (.aload_n 1, 1) := by decide +kernel
theorem d12_33 : decode prog_5_method_5_code 33 = .ok (.aload_n 0, 1) := by decide +kernel
theorem d12_34 : decode prog_5_method_5_code 34 = .ok (.getfield 13, 3) := by decide +kernel
theorem d12_37 : decode prog_5_method_5_code 37 = .ok (.aload_n 0, 1) := by decide +kernel
theorem d12_38 : decode prog_5_method_5_code 38 = .ok (.getfield 17, 3) := by decide +kernel
theorem d12_41 : decode prog_5_method_5_code 41 = .ok (.aaload, 1) := by decide +kernel
theorem d12_42 : decode prog_5_method_5_code 42 = .ok (.invokevirtual 25, 3) := by decide +kernel
theorem d12_45 : decode prog_5_method_5_code 45 = .ok (.return_, 1) := by decide +kernel
theorem d13_0 : decode prog_5_method_6_code 0 = .ok (.aload_n 0, 1) := by decide +kernel
theorem d13_1 : decode prog_5_method_6_code 1 = .ok (.iconst 0, 1) := by decide +kernel
theorem d13_2 : decode prog_5_method_6_code 2 = .ok (.putfield 21, 3) := by decide +kernel
theorem d13_5 : decode prog_5_method_6_code 5 = .ok (.return_, 1) := by decide +kernel
theorem d14_0 : decode prog_6_method_1_code 0 = .ok (.aload_n 0, 1) := by decide +kernel
theorem d14_1 : decode prog_6_method_1_code 1 = .ok (.invokespecial 3, 3) := by decide +kernel
theorem d14_4 : decode prog_6_method_1_code 4 = .ok (.aload_n 0, 1) := by decide +kernel
theorem d14_5 : decode prog_6_method_1_code 5 = .ok (.iconst (-1), 1) := by decide +kernel
theorem d14_6 : decode prog_6_method_1_code 6 = .ok (.putfield 9, 3) := by decide +kernel
theorem d14_9 : decode prog_6_method_1_code 9 = .ok (.return_, 1) := by decide +kernel
theorem d15_0 : decode prog_6_method_2_code 0 = .ok (.aload_n 0, 1) := by decide +kernel
theorem d15_1 : decode prog_6_method_2_code 1 = .ok (.aload_n 1, 1) := by decide +kernel
theorem d15_2 : decode prog_6_method_2_code 2 = .ok (.getfield 15, 3) := by decide +kernel
theorem d15_5 : decode prog_6_method_2_code 5 = .ok (.putfield 15, 3) := by decide +kernel
theorem d15_8 : decode prog_6_method_2_code 8 = .ok (.aload_n 0, 1) := by decide +kernel
theorem d15_9 : decode prog_6_method_2_code 9 = .ok (.aload_n 1, 1) := by decide +kernel
theorem d15_10 : decode prog_6_method_2_code 10 = .ok (.getfield 18, 3) := by decide +kernel
theorem d15_13 : decode prog_6_method_2_code 13 = .ok (.putfield 18, 3) := by decide +kernel
theorem d15_16 : decode prog_6_method_2_code 16 = .ok (.aload_n 0, 1) := by decide +kernel
theorem d15_17 : decode prog_6_method_2_code 17 = .ok (.aload_n 1, 1) := by decide +kernel
theorem d15_18 : decode prog_6_method_2_code 18 = .ok (.getfield 21, 3) := by decide +kernel
theorem d15_21 : decode prog_6_method_2_code 21 = .ok (.putfield 21, 3) := by decide +kernel
theorem d15_24 : decode prog_6_method_2_code 24 = .ok (.aload_n 0, 1) := by decide +kernel
theorem d15_25 : decode prog_6_method_2_code 25 = .ok (.aload_n 1, 1) := by decide +kernel
theorem d15_26 : decode prog_6_method_2_code 26 = .ok (.getfield 24, 3) := by decide +kernel
theorem d15_29 : decode prog_6_method_2_code 29 = .ok (.putfield 24, 3) := by decide +kernel
theorem d15_32 : decode prog_6_method_2_code 32 = .ok (.aload_n 0, 1) := by decide +kernel
theorem d15_33 : decode prog_6_method_2_code 33 = .ok (.aload_n 1, 1) := by decide +kernel
theorem d15_34 : decode prog_6_method_2_code 34 = .ok (.getfield 27, 3) := by decide +kernel
theorem d15_37 : decode prog_6_method_2_code 37 = .ok (.putfield 27, 3) := by decide +kernel
theorem d15_40 : decode prog_6_method_2_code 40 = .ok (.aload_n 0, 1) := by decide +kernel
theorem d15_41 : decode prog_6_method_2_code 41 = .ok (.aload_n 1, 1) := by decide +kernel
theorem d15_42 : decode prog_6_method_2_code 42 = .ok (.getfield 30, 3) := by decide +kernel
theorem d15_45 : decode prog_6_method_2_code 45 = .ok (.putfield 30, 3) := by decide +kernel
theorem d15_48 : decode prog_6_method_2_code 48 = .ok (.aload_n 0, 1) := by decide +kernel
theorem d15_49 : decode prog_6_method_2_code 49 = .ok (.aload_n 1, 1) := by decide +kernel
theorem d15_50 : decode prog_6_method_2_code 50 = .ok (.getfield 33, 3) := by decide +kernel
theorem d15_53 : decode prog_6_method_2_code 53 = .ok (.putfield 33, 3) := by decide +kernel
theorem d15_56 : decode prog_6_method_2_code 56 = .ok (.aload_n 0, 1) := by decide +kernel
theorem d15_57 : decode prog_6_method_2_code 57 = .ok (.aload_n 1, 1) := by decide +kernel
theorem d15_58 : decode prog_6_method_2_code 58 = .ok (.getfield 9, 3) := by decide +kernel
theorem d15_61 : decode prog_6_method_2_code 61 = .ok (.putfield 9, 3) := by decide +kernel
theorem d15_64 : decode prog_6_method_2_code 64 = .ok (.return_, 1) := by decide +kernel
theorem d16_0 : decode prog_6_method_3_code 0 = .ok (.iload_n 3, 1) := by decide +kernel
theorem d16_1 : decode prog_6_method_3_code 1 = .ok (.iload_n 1, 1) := by decide +kernel
theorem d16_2 : decode prog_6_method_3_code 2 = .ok (.iload_n 2, 1) := by decide +kernel
theorem d16_3 : decode prog_6_method_3_code 3 = .ok (.aload_n 0, 1) := by decide +kernel
theorem d16_4 : decode prog_6_method_3_code 4 = .ok (.getfield 18, 3) := by decide +kernel
theorem d16_7 : decode prog_6_method_3_code 7 = .ok (.aload_n 0, 1) := by decide +kernel
theorem d16_8 : decode prog_6_method_3_code 8 = .ok (.getfield 21, 3) := by decide +kernel
theorem d16_11 : decode prog_6_method_3_code 11 = .ok (.invokestatic 36, 3) := by decide +kernel
theorem d16_14 : decode prog_6_method_3_code 14 = .ok (.iadd, 1) := by decide +kernel
theorem d16_15 : decode prog_6_method_3_code 15 = .ok (.aload_n 0, 1) := by decide +kernel
theorem d16_16 : decode prog_6_method_3_code 16 = .ok (.getfield 30, 3) := by decide +kernel
theorem d16_19 : decode prog_6_method_3_code 19 = .ok (.iadd, 1) := by decide +kernel
theorem d16_20 : decode prog_6_method_3_code 20 = .ok (.ireturn, 1) := by decide +kernel
theorem d17_0 : decode prog_6_method_4_code 0 = .ok (.iload_n 1, 1) := by decide +kernel
theorem d17_1 : decode prog_6_method_4_code 1 = .ok (.aload_n 0, 1) := by decide +kernel
theorem d17_2 : decode prog_6_method_4_code 2 = .ok (.getfield 33, 3) := by decide +kernel
theorem d17_5 : decode prog_6_method_4_code 5 = .ok (.isub, 1) := by decide +kernel
theorem d17_6 : decode prog_6_method_4_code 6 = .ok (.iconst 0, 1) := by decide +kernel
theorem d17_7 : decode prog_6_method_4_code 7 = .ok (.invokestatic 40, 3) := by decide +kernel
theorem d17_10 : decode prog_6_method_4_code 10 = .ok (.ireturn, 1) := by decide +kernel
theorem d18_0 : decode prog_6_method_5_code 0 = .ok (.aload_n 0, 1) := by decide +kernel
theorem d18_1 : decode prog_6_method_5_code 1 = .ok (.getfield 33, 3) := by decide +kernel
theorem d18_4 : decode prog_6_method_5_code 4 = .ok (.aload_n 1, 1) := by decide +kernel
theorem d18_5 : decode prog_6_method_5_code 5 = .ok (.getfield 33, 3) := by decide +kernel
theorem d18_8 : decode prog_6_method_5_code 8 = .ok (.if_icmp .lt 25, 3) := by decide +kernel
theorem d18_11 : decode prog_6_method_5_code 11 = .ok (.aload_n 0, 1) := by decide +kernel
theorem d18_12 : decode prog_6_method_5_code 12 = .ok (.getfield 33, 3) := by decide +kernel
theorem d18_15 : decode prog_6_method_5_code 15 = .ok (.aload_n 1, 1) := by decide +kernel
theorem d18_16 : decode prog_6_method_5_code 16 = .ok (.getfield 33, 3) := by decide +kernel
theorem d18_19 : decode prog_6_method_5_code 19 = .ok (.if_icmp .ne 18, 3) := by decide +kernel
theorem d18_22 : decode prog_6_method_5_code 22 = .ok (.aload_n 0, 1) := by decide +kernel
theorem d18_23 : decode prog_6_method_5_code 23 = .ok (.getfield 15, 3) := by decide +kernel
theorem d18_26 : decode prog_6_method_5_code 26 = .ok (.aload_n 1, 1) := by decide +kernel
theorem d18_27 : decode prog_6_method_5_code 27 = .ok (.getfield 15, 3) := by decide +kernel
theorem d18_30 : decode prog_6_method_5_code 30 = .ok (.if_icmp .ge 7, 3) := by decide +kernel
theorem d18_33 : decode prog_6_method_5_code 33 = .ok (.iconst 1, 1) := by decide +kernel
theorem d18_34 : decode prog_6_method_5_code 34 = .ok (.goto 4, 3) := by decide +kernel
theorem d18_37 : decode prog_6_method_5_code 37 = .ok (.iconst 0, 1) := by decide +kernel
theorem d18_38 : decode prog_6_method_5_code 38 = .ok (.ireturn, 1) := by decide +kernel
theorem d19_0 : decode prog_7_method_1_code 0 = .ok (.aload_n 0, 1) := by decide +kernel
theorem d19_1 : decode prog_7_method_1_code 1 = .ok (.invokespecial 3, 3) := by decide +kernel
theorem d19_4 : decode prog_7_method_1_code 4 = .ok (.aload_n 0, 1) := by decide +kernel
theorem d19_5 : decode prog_7_method_1_code 5 = .ok (.bipush 6, 2) := by decide +kernel
theorem d19_7 : decode prog_7_method_1_code 7 = .ok (.anewarray 9, 3) := by decide +kernel
theorem d19_10 : decode prog_7_method_1_code 10 = .ok (.putfield 11, 3) := by decide +kernel
theorem d19_13 : decode prog_7_method_1_code 13 = .ok (.aload_n 0, 1) := by decide +kernel
theorem d19_14 : decode prog_7_method_1_code 14 = .ok (.bipush 6, 2) := by decide +kernel
theorem d19_16 : decode prog_7_method_1_code 16 = .ok (.newarray .boolean, 2) := by decide +kernel
theorem d19_18 : decode prog_7_method_1_code 18 = .ok (.putfield 17, 3) := by decide +kernel
theorem d19_21 : decode prog_7_method_1_code 21 = .ok (.aload_n 0, 1) := by decide +kernel
theorem d19_22 : decode prog_7_method_1_code 22 = .ok (.bipush 6, 2) := by decide +kernel
theorem d19_24 : decode prog_7_method_1_code 24 = .ok (.newarray .int, 2) := by decide +kernel
theorem d19_26 : decode prog_7_method_1_code 26 = .ok (.putfield 21, 3) := by decide +kernel
theorem d19_29 : decode prog_7_method_1_code 29 = .ok (.aload_n 0, 1) := by decide +kernel
theorem d19_30 : decode prog_7_method_1_code 30 = .ok (.bipush 6, 2) := by decide +kernel
theorem d19_32 : decode prog_7_method_1_code 32 = .ok (.newarray .int, 2) := by decide +kernel
theorem d19_34 : decode prog_7_method_1_code 34 = .ok (.putfield 25, 3) := by decide +kernel
theorem d19_37 : decode prog_7_method_1_code 37 = .ok (.aload_n 0, 1) := by decide +kernel
theorem d19_38 : decode prog_7_method_1_code 38 = .ok (.iconst 0, 1) := by decide +kernel
theorem d19_39 : decode prog_7_method_1_code 39 = .ok (.putfield 28, 3) := by decide +kernel
theorem d19_42 : decode prog_7_method_1_code 42 = .ok (.aload_n 0, 1) := by decide +kernel
theorem d19_43 : decode prog_7_method_1_code 43 = .ok (.iconst 0, 1) := by decide +kernel
theorem d19_44 : decode prog_7_method_1_code 44 = .ok (.putfield 32, 3) := by decide +kernel
theorem d19_47 : decode prog_7_method_1_code 47 = .ok (.aload_n 0, 1) := by decide +kernel
theorem d19_48 : decode prog_7_method_1_code 48 = .ok (.bipush 6, 2) := by decide +kernel
theorem d19_50 : decode prog_7_method_1_code 50 = .ok (.newarray .int, 2) := by decide +kernel
theorem d19_52 : decode prog_7_method_1_code 52 = .ok (.putfield 36, 3) := by decide +kernel
theorem d19_55 : decode prog_7_method_1_code 55 = .ok (.aload_n 0, 1) := by decide +kernel
theorem d19_56 : decode prog_7_method_1_code 56 = .ok (.bipush 6, 2) := by decide +kernel
theorem d19_58 : decode prog_7_method_1_code 58 = .ok (.newarray .int, 2) := by decide +kernel
theorem d19_60 : decode prog_7_method_1_code 60 = .ok (.putfield 39, 3) := by decide +kernel
theorem d19_63 : decode prog_7_method_1_code 63 = .ok (.aload_n 0, 1) := by decide +kernel
theorem d19_64 : decode prog_7_method_1_code 64 = .ok (.iconst 0, 1) := by decide +kernel
theorem d19_65 : decode prog_7_method_1_code 65 = .ok (.putfield 42, 3) := by decide +kernel
theorem d19_68 : decode prog_7_method_1_code 68 = .ok (.iconst 0, 1) := by decide +kernel
theorem d19_69 : decode prog_7_method_1_code 69 = .ok (.istore_n 1, 1) := by decide +kernel
theorem d19_70 : decode prog_7_method_1_code 70 = .ok (.iload_n 1, 1) := by decide +kernel
theorem d19_71 : decode prog_7_method_1_code 71 = .ok (.bipush 6, 2) := by decide +kernel
theorem d19_73 : decode prog_7_method_1_code 73 = .ok (.if_icmp .ge 22, 3) := by decide +kernel
theorem d19_76 : decode prog_7_method_1_code 76 = .ok (.aload_n 0, 1) := by decide +kernel
theorem d19_77 : decode prog_7_method_1_code 77 = .ok (.getfield 11, 3) := by decide +kernel
theorem d19_80 : decode prog_7_method_1_code 80 = .ok (.iload_n 1, 1) := by decide +kernel
theorem d19_81 : decode prog_7_method_1_code 81 = .ok (.new 9, 3) := by decide +kernel
theorem d19_84 : decode prog_7_method_1_code 84 = .ok (.dup, 1) := by decide +kernel
theorem d19_85 : decode prog_7_method_1_code 85 = .ok (.invokespecial 45, 3) := by decide +kernel
theorem d19_88 : decode prog_7_method_1_code 88 = .ok (.aastore, 1) := by decide +kernel
theorem d19_89 : decode prog_7_method_1_code 89 = .ok (.iinc 1 1, 3) := by decide +kernel
theorem d19_92 : decode prog_7_method_1_code 92 = .ok (.goto (-22), 3) := by decide +kernel
theorem d19_95 : decode prog_7_method_1_code 95 = .ok (.return_, 1) := by decide +kernel
theorem d20_0 : decode prog_7_method_2_code 0 = .ok (.aload_n 0, 1) := by decide +kernel
theorem d20_1 : decode prog_7_method_2_code 1 = .ok (.aload_n 1, 1) := by decide +kernel
theorem d20_2 : decode prog_7_method_2_code 2 = .ok (.iload_n 2, 1) := by decide +kernel
theorem d20_3 : decode prog_7_method_2_code 3 = .ok (.invokevirtual 46, 3) := by decide +kernel
theorem d20_6 : decode prog_7_method_2_code 6 = .ok (.aload_n 0, 1) := by decide +kernel
theorem d20_7 : decode prog_7_method_2_code 7 = .ok (.iconst 0, 1) := by decide +kernel
theorem d20_8 : decode prog_7_method_2_code 8 = .ok (.putfield 28, 3) := by decide +kernel
theorem d20_11 : decode prog_7_method_2_code 11 = .ok (.aload_n 0, 1) := by decide +kernel
theorem d20_12 : decode prog_7_method_2_code 12 = .ok (.iconst 0, 1) := by decide +kernel
theorem d20_13 : decode prog_7_method_2_code 13 = .ok (.putfield 32, 3) := by decide +kernel
theorem d20_16 : decode prog_7_method_2_code 16 = .ok (.iload_n 2, 1) := by decide +kernel
theorem d20_17 : decode prog_7_method_2_code 17 = .ok (.invokestatic 50, 3) := by decide +kernel
theorem d20_20 : decode prog_7_method_2_code 20 = .ok (.ifCond .eq 28, 3) := by decide +kernel
theorem d20_23 : decode prog_7_method_2_code 23 = .ok (.aload_n 1, 1) := by decide +kernel
theorem d20_24 : decode prog_7_method_2_code 24 = .ok (.getfield 54, 3) := by decide +kernel
theorem d20_27 : decode prog_7_method_2_code 27 = .ok (.iload_n 2, 1) := by decide +kernel
theorem d20_28 : decode prog_7_method_2_code 28 = .ok (.aaload, 1) := by decide +kernel
theorem d20_29 : decode prog_7_method_2_code 29 = .ok (.astore_n 3, 1) := by decide +kernel
theorem d20_30 : decode prog_7_method_2_code 30 = .ok (.aload_n 0, 1) := by decide +kernel
theorem d20_31 : decode prog_7_method_2_code 31 = .ok (.iconst 0, 1) := by decide +kernel
theorem d20_32 : decode prog_7_method_2_code 32 = .ok (.aload_n 3, 1) := by decide +kernel
theorem d20_33 : decode prog_7_method_2_code 33 = .ok (.getfield 60, 3) := by decide +kernel
theorem d20_36 : decode prog_7_method_2_code 36 = .ok (.aload_n 3, 1) := by decide +kernel
theorem d20_37 : decode prog_7_method_2_code 37 = .ok (.getfield 65, 3) := by decide +kernel
theorem d20_40 : decode prog_7_method_2_code 40 = .ok (.aload_n 3, 1) := by decide +kernel
theorem d20_41 : decode prog_7_method_2_code 41 = .ok (.getfield 68, 3) := by decide +kernel
theorem d20_44 : decode prog_7_method_2_code 44 = .ok (.iconst 0, 1) := by decide +kernel
theorem d20_45 : decode prog_7_method_2_code 45 = .ok (.invokevirtual 71, 3) := by decide +kernel
theorem d20_48 : decode prog_7_method_2_code 48 = .ok (.aload_n 0, 1) := by decide +kernel
theorem d20_49 : decode prog_7_method_2_code 49 = .ok (.getfield 32, 3) := by decide +kernel
theorem d20_52 : decode prog_7_method_2_code 52 = .ok (.ireturn, 1) := by decide +kernel
theorem d21_0 : decode prog_7_method_4_code 0 = .ok (.aload_n 0, 1) := by decide +kernel
theorem d21_1 : decode prog_7_method_4_code 1 = .ok (.iconst 0, 1) := by decide +kernel
theorem d21_2 : decode prog_7_method_4_code 2 = .ok (.putfield 42, 3) := by decide +kernel
theorem d21_5 : decode prog_7_method_4_code 5 = .ok (.iconst 0, 1) := by decide +kernel
theorem d21_6 : decode prog_7_method_4_code 6 = .ok (.istore_n 3, 1) := by decide +kernel
theorem d21_7 : decode prog_7_method_4_code 7 = .ok (.iload_n 3, 1) := by decide +kernel
theorem d21_8 : decode prog_7_method_4_code 8 = .ok (.aload_n 1, 1) := by decide +kernel
theorem d21_9 : decode prog_7_method_4_code 9 = .ok (.getfield 89, 3) := by decide +kernel
theorem d21_12 : decode prog_7_method_4_code 12 = .ok (.if_icmp .ge 59, 3) := by decide +kernel
theorem d21_15 : decode prog_7_method_4_code 15 = .ok (.aload_n 1, 1) := by decide +kernel
theorem d21_16 : decode prog_7_method_4_code 16 = .ok (.getfield 92, 3) := by decide +kernel
theorem d21_19 : decode prog_7_method_4_code 19 = .ok (.iload_n 3, 1) := by decide +kernel
theorem d21_20 : decode prog_7_method_4_code 20 = .ok (.aaload, 1) := by decide +kernel
theorem d21_21 : decode prog_7_method_4_code 21 = .ok (.getfield 93, 3) := by decide +kernel
theorem d21_24 : decode prog_7_method_4_code 24 = .ok (.iload_n 2, 1) := by decide +kernel
theorem d21_25 : decode prog_7_method_4_code 25 = .ok (.if_icmp .ne 40, 3) := by decide +kernel
theorem d21_28 : decode prog_7_method_4_code 28 = .ok (.aload_n 0, 1) := by decide +kernel
theorem d21_29 : decode prog_7_method_4_code 29 = .ok (.getfield 42, 3) := by decide +kernel
theorem d21_32 : decode prog_7_method_4_code 32 = .ok (.bipush 6, 2) := by decide +kernel
theorem d21_34 : decode prog_7_method_4_code 34 = .ok (.if_icmp .ge 31, 3) := by decide +kernel
theorem d21_37 : decode prog_7_method_4_code 37 = .ok (.aload_n 0, 1) := by decide +kernel
theorem d21_38 : decode prog_7_method_4_code 38 = .ok (.getfield 11, 3) := by decide +kernel
theorem d21_41 : decode prog_7_method_4_code 41 = .ok (.aload_n 0, 1) := by decide +kernel
theorem d21_42 : decode prog_7_method_4_code 42 = .ok (.getfield 42, 3) := by decide +kernel
theorem d21_45 : decode prog_7_method_4_code 45 = .ok (.aaload, 1) := by decide +kernel
theorem d21_46 : decode prog_7_method_4_code 46 = .ok (.aload_n 1, 1) := by decide +kernel
theorem d21_47 : decode prog_7_method_4_code 47 = .ok (.getfield 92, 3) := by decide +kernel
theorem d21_50 : decode prog_7_method_4_code 50 = .ok (.iload_n 3, 1) := by decide +kernel
theorem d21_51 : decode prog_7_method_4_code 51 = .ok (.aaload, 1) := by decide +kernel
theorem d21_52 : decode prog_7_method_4_code 52 = .ok (.invokevirtual 96, 3) := by decide +kernel
theorem d21_55 : decode prog_7_method_4_code 55 = .ok (.aload_n 0, 1) := by decide +kernel
theorem d21_56 : decode prog_7_method_4_code 56 = .ok (.dup, 1) := by decide +kernel
theorem d21_57 : decode prog_7_method_4_code 57 = .ok (.getfield 42, 3) := by decide +kernel
theorem d21_60 : decode prog_7_method_4_code 60 = .ok (.iconst 1, 1) := by decide +kernel
theorem d21_61 : decode prog_7_method_4_code 61 = .ok (.iadd, 1) := by decide +kernel
theorem d21_62 : decode prog_7_method_4_code 62 = .ok (.putfield 42, 3) := by decide +kernel
theorem d21_65 : decode prog_7_method_4_code 65 = .ok (.iinc 3 1, 3) := by decide +kernel
theorem d21_68 : decode prog_7_method_4_code 68 = .ok (.goto (-61), 3) := by decide +kernel
theorem d21_71 : decode prog_7_method_4_code 71 = .ok (.return_, 1) := by decide +kernel
theorem d22_0 : decode prog_7_method_5_code 0 = .ok (.iload_n 1, 1) := by decide +kernel
theorem d22_1 : decode prog_7_method_5_code 1 = .ok (.aload_n 0, 1) := by decide +kernel
theorem d22_2 : decode prog_7_method_5_code 2 = .ok (.getfield 42, 3) := by decide +kernel
theorem d22_5 : decode prog_7_method_5_code 5 = .ok (.if_icmp .ge 9, 3) := by decide +kernel
theorem d22_8 : decode prog_7_method_5_code 8 = .ok (.iload_n 1, 1) := by decide +kernel
theorem d22_9 : decode prog_7_method_5_code 9 = .ok (.bipush 6, 2) := by decide +kernel
theorem d22_11 : decode prog_7_method_5_code 11 = .ok (.if_icmp .lt 10, 3) := by decide +kernel
theorem d22_14 : decode prog_7_method_5_code 14 = .ok (.aload_n 0, 1) := by decide +kernel
theorem d22_15 : decode prog_7_method_5_code 15 = .ok (.iload 5, 2) := by decide +kernel
theorem d22_17 : decode prog_7_method_5_code 17 = .ok (.invokevirtual 100, 3) := by decide +kernel
theorem d22_20 : decode prog_7_method_5_code 20 = .ok (.return_, 1) := by decide +kernel
theorem d22_21 : decode prog_7_method_5_code 21 = .ok (.iconst 0, 1) := by decide +kernel
theorem d22_22 : decode prog_7_method_5_code 22 = .ok (.istore 6, 2) := by decide +kernel
theorem d22_24 : decode prog_7_method_5_code 24 = .ok (.iload 6, 2) := by decide +kernel
theorem d22_26 : decode prog_7_method_5_code 26 = .ok (.aload_n 0, 1) := by decide +kernel
theorem d22_27 : decode prog_7_method_5_code 27 = .ok (.getfield 42, 3) := by decide +kernel
theorem d22_30 : decode prog_7_method_5_code 30 = .ok (.if_icmp .ge 103, 3) := by decide +kernel
theorem d22_33 : decode prog_7_method_5_code 33 = .ok (.aload_n 0, 1) := by decide +kernel
theorem d22_34 : decode prog_7_method_5_code 34 = .ok (.getfield 17, 3) := by decide +kernel
theorem d22_37 : decode prog_7_method_5_code 37 = .ok (.iload 6, 2) := by decide +kernel
theorem d22_39 : decode prog_7_method_5_code 39 = .ok (.baload, 1) := by decide +kernel
theorem d22_40 : decode prog_7_method_5_code 40 = .ok (.ifCond .ne 87, 3) := by decide +kernel
theorem d22_43 : decode prog_7_method_5_code 43 = .ok (.aload_n 0, 1) := by decide +kernel
theorem d22_44 : decode prog_7_method_5_code 44 = .ok (.getfield 11, 3) := by decide +kernel
theorem d22_47 : decode prog_7_method_5_code 47 = .ok (.iload 6, 2) := by decide +kernel
theorem d22_49 : decode prog_7_method_5_code 49 = .ok (.aaload, 1) := by decide +kernel
theorem d22_50 : decode prog_7_method_5_code 50 = .ok (.astore 7, 2) := by decide +kernel
theorem d22_52 : decode prog_7_method_5_code 52 = .ok (.aload 7, 2) := by decide +kernel
theorem d22_54 : decode prog_7_method_5_code 54 = .ok (.iload_n 2, 1) := by decide +kernel
theorem d22_55 : decode prog_7_method_5_code 55 = .ok (.iload_n 3, 1) := by decide +kernel
theorem d22_56 : decode prog_7_method_5_code 56 = .ok (.iload 4, 2) := by decide +kernel
theorem d22_58 : decode prog_7_method_5_code 58 = .ok (.invokevirtual 104, 3) := by decide +kernel
theorem d22_61 : decode prog_7_method_5_code 61 = .ok (.istore 8, 2) := by decide +kernel
theorem d22_63 : decode prog_7_method_5_code 63 = .ok (.aload_n 0, 1) := by decide +kernel
theorem d22_64 : decode prog_7_method_5_code 64 = .ok (.getfield 17, 3) := by decide +kernel
theorem d22_67 : decode prog_7_method_5_code 67 = .ok (.iload 6, 2) := by decide +kernel
theorem d22_69 : decode prog_7_method_5_code 69 = .ok (.iconst 1, 1) := by decide +kernel
theorem d22_70 : decode prog_7_method_5_code 70 = .ok (.bastore, 1) := by decide +kernel
theorem d22_71 : decode prog_7_method_5_code 71 = .ok (.aload_n 0, 1) := by decide +kernel
theorem d22_72 : decode prog_7_method_5_code 72 = .ok (.getfield 21, 3) := by decide +kernel
theorem d22_75 : decode prog_7_method_5_code 75 = .ok (.iload_n 1, 1) := by decide +kernel
theorem d22_76 : decode prog_7_method_5_code 76 = .ok (.aload 7, 2) := by decide +kernel
theorem d22_78 : decode prog_7_method_5_code 78 = .ok (.getfield 108, 3) := by decide +kernel
theorem d22_81 : decode prog_7_method_5_code 81 = .ok (.iastore, 1) := by decide +kernel
theorem d22_82 : decode prog_7_method_5_code 82 = .ok (.aload_n 0, 1) := by decide +kernel
theorem d22_83 : decode prog_7_method_5_code 83 = .ok (.getfield 25, 3) := by decide +kernel
theorem d22_86 : decode prog_7_method_5_code 86 = .ok (.iload_n 1, 1) := by decide +kernel
theorem d22_87 : decode prog_7_method_5_code 87 = .ok (.iload 8, 2) := by decide +kernel
theorem d22_89 : decode prog_7_method_5_code 89 = .ok (.iastore, 1) := by decide +kernel
theorem d22_90 : decode prog_7_method_5_code 90 = .ok (.aload_n 0, 1) := by decide +kernel
theorem d22_91 : decode prog_7_method_5_code 91 = .ok (.iload_n 1, 1) := by decide +kernel
theorem d22_92 : decode prog_7_method_5_code 92 = .ok (.iconst 1, 1) := by decide +kernel
theorem d22_93 : decode prog_7_method_5_code 93 = .ok (.iadd, 1) := by decide +kernel
theorem d22_94 : decode prog_7_method_5_code 94 = .ok (.aload 7, 2) := by decide +kernel
theorem d22_96 : decode prog_7_method_5_code 96 = .ok (.getfield 111, 3) := by decide +kernel
theorem d22_99 : decode prog_7_method_5_code 99 = .ok (.aload 7, 2) := by decide +kernel
theorem d22_101 : decode prog_7_method_5_code 101 = .ok (.getfield 112, 3) := by decide +kernel
theorem d22_104 : decode prog_7_method_5_code 104 = .ok (.iload 8, 2) := by decide +kernel
theorem d22_106 : decode prog_7_method_5_code 106 = .ok (.iload 5, 2) := by decide +kernel
theorem d22_108 : decode prog_7_method_5_code 108 = .ok (.aload 7, 2) := by decide +kernel
theorem d22_110 : decode prog_7_method_5_code 110 = .ok (.iload 8, 2) := by decide +kernel
theorem d22_112 : decode prog_7_method_5_code 112 = .ok (.invokevirtual 113, 3) := by decide +kernel
theorem d22_115 : decode prog_7_method_5_code 115 = .ok (.iadd, 1) := by decide +kernel
theorem d22_116 : decode prog_7_method_5_code 116 = .ok (.invokevirtual 71, 3) := by decide +kernel
theorem d22_119 : decode prog_7_method_5_code 119 = .ok (.aload_n 0, 1) := by decide +kernel
theorem d22_120 : decode prog_7_method_5_code 120 = .ok (.getfield 17, 3) := by decide +kernel
theorem d22_123 : decode prog_7_method_5_code 123 = .ok (.iload 6, 2) := by decide +kernel
theorem d22_125 : decode prog_7_method_5_code 125 = .ok (.iconst 0, 1) := by decide +kernel
theorem d22_126 : decode prog_7_method_5_code 126 = .ok (.bastore, 1) := by decide +kernel
theorem d22_127 : decode prog_7_method_5_code 127 = .ok (.iinc 6 1, 3) := by decide +kernel
theorem d22_130 : decode prog_7_method_5_code 130 = .ok (.goto (-106), 3) := by decide +kernel
theorem d22_133 : decode prog_7_method_5_code 133 = .ok (.return_, 1) := by decide +kernel
theorem d23_0 : decode prog_7_method_6_code 0 = .ok (.aload_n 0, 1) := by decide +kernel
theorem d23_1 : decode prog_7_method_6_code 1 = .ok (.getfield 28, 3) := by decide +kernel
theorem d23_4 : decode prog_7_method_6_code 4 = .ok (.ifCond .eq 11, 3) := by decide +kernel
theorem d23_7 : decode prog_7_method_6_code 7 = .ok (.iload_n 1, 1) := by decide +kernel
theorem d23_8 : decode prog_7_method_6_code 8 = .ok (.aload_n 0, 1) := by decide +kernel
theorem d23_9 : decode prog_7_method_6_code 9 = .ok (.getfield 32, 3) := by decide +kernel
theorem d23_12 : decode prog_7_method_6_code 12 = .ok (.if_icmp .ge 43, 3) := by decide +kernel
theorem d23_15 : decode prog_7_method_6_code 15 = .ok (.aload_n 0, 1) := by decide +kernel
theorem d23_16 : decode prog_7_method_6_code 16 = .ok (.iconst 1, 1) := by decide +kernel
theorem d23_17 : decode prog_7_method_6_code 17 = .ok (.putfield 28, 3) := by decide +kernel
theorem d23_20 : decode prog_7_method_6_code 20 = .ok (.aload_n 0, 1) := by decide +kernel
theorem d23_21 : decode prog_7_method_6_code 21 = .ok (.iload_n 1, 1) := by decide +kernel
theorem d23_22 : decode prog_7_method_6_code 22 = .ok (.putfield 32, 3) := by decide +kernel
theorem d23_25 : decode prog_7_method_6_code 25 = .ok (.aload_n 0, 1) := by decide +kernel
theorem d23_26 : decode prog_7_method_6_code 26 = .ok (.getfield 21, 3) := by decide +kernel
theorem d23_29 : decode prog_7_method_6_code 29 = .ok (.iconst 0, 1) := by decide +kernel
theorem d23_30 : decode prog_7_method_6_code 30 = .ok (.aload_n 0, 1) := by decide +kernel
theorem d23_31 : decode prog_7_method_6_code 31 = .ok (.getfield 36, 3) := by decide +kernel
theorem d23_34 : decode prog_7_method_6_code 34 = .ok (.iconst 0, 1) := by decide +kernel
theorem d23_35 : decode prog_7_method_6_code 35 = .ok (.bipush 6, 2) := by decide +kernel
theorem d23_37 : decode prog_7_method_6_code 37 = .ok (.invokestatic 117, 3) := by decide +kernel
theorem d23_40 : decode prog_7_method_6_code 40 = .ok (.aload_n 0, 1) := by decide +kernel
theorem d23_41 : decode prog_7_method_6_code 41 = .ok (.getfield 25, 3) := by decide +kernel
theorem d23_44 : decode prog_7_method_6_code 44 = .ok (.iconst 0, 1) := by decide +kernel
theorem d23_45 : decode prog_7_method_6_code 45 = .ok (.aload_n 0, 1) := by decide +kernel
theorem d23_46 : decode prog_7_method_6_code 46 = .ok (.getfield 39, 3) := by decide +kernel
theorem d23_49 : decode prog_7_method_6_code 49 = .ok (.iconst 0, 1) := by decide +kernel
theorem d23_50 : decode prog_7_method_6_code 50 = .ok (.bipush 6, 2) := by decide +kernel
theorem d23_52 : decode prog_7_method_6_code 52 = .ok (.invokestatic 117, 3) := by decide +kernel
theorem d23_55 : decode prog_7_method_6_code 55 = .ok (.return_, 1) := by decide +kernel
theorem d24_0 : decode prog_7_method_3_code 0 = .ok (.aload_n 0, 1) := by decide +kernel
theorem d24_1 : decode prog_7_method_3_code 1 = .ok (.aload_n 1, 1) := by decide +kernel
theorem d24_2 : decode prog_7_method_3_code 2 = .ok (.iload_n 2, 1) := by decide +kernel
theorem d24_3 : decode prog_7_method_3_code 3 = .ok (.invokevirtual 46, 3) := by decide +kernel
theorem d24_6 : decode prog_7_method_3_code 6 = .ok (.iload_n 2, 1) := by decide +kernel
theorem d24_7 : decode prog_7_method_3_code 7 = .ok (.invokestatic 50, 3) := by decide +kernel
theorem d24_10 : decode prog_7_method_3_code 10 = .ok (.ifCond .ne 5, 3) := by decide +kernel
theorem d24_13 : decode prog_7_method_3_code 13 = .ok (.iconst 0, 1) := by decide +kernel
theorem d24_14 : decode prog_7_method_3_code 14 = .ok (.ireturn, 1) := by decide +kernel
theorem d24_15 : decode prog_7_method_3_code 15 = .ok (.aload_n 0, 1) := by decide +kernel
theorem d24_16 : decode prog_7_method_3_code 16 = .ok (.aload_n 1, 1) := by decide +kernel
theorem d24_17 : decode prog_7_method_3_code 17 = .ok (.getfield 54, 3) := by decide +kernel
theorem d24_20 : decode prog_7_method_3_code 20 = .ok (.iload_n 2, 1) := by decide +kernel
theorem d24_21 : decode prog_7_method_3_code 21 = .ok (.aaload, 1) := by decide +kernel
theorem d24_22 : decode prog_7_method_3_code 22 = .ok (.invokevirtual 75, 3) := by decide +kernel
theorem d24_25 : decode prog_7_method_3_code 25 = .ok (.istore_n 3, 1) := by decide +kernel
theorem d24_26 : decode prog_7_method_3_code 26 = .ok (.iconst 1, 1) := by decide +kernel
theorem d24_27 : decode prog_7_method_3_code 27 = .ok (.istore 4, 2) := by decide +kernel
theorem d24_29 : decode prog_7_method_3_code 29 = .ok (.iload 4, 2) := by decide +kernel
theorem d24_31 : decode prog_7_method_3_code 31 = .ok (.sipush 720, 3) := by decide +kernel
theorem d24_34 : decode prog_7_method_3_code 34 = .ok (.if_icmp .ge 31, 3) := by decide +kernel
theorem d24_37 : decode prog_7_method_3_code 37 = .ok (.aload_n 0, 1) := by decide +kernel
theorem d24_38 : decode prog_7_method_3_code 38 = .ok (.invokevirtual 79, 3) := by decide +kernel
theorem d24_41 : decode prog_7_method_3_code 41 = .ok (.ifCond .eq 24, 3) := by decide +kernel
theorem d24_44 : decode prog_7_method_3_code 44 = .ok (.iload_n 3, 1) := by decide +kernel
theorem d24_45 : decode prog_7_method_3_code 45 = .ok (.aload_n 0, 1) := by decide +kernel
theorem d24_46 : decode prog_7_method_3_code 46 = .ok (.aload_n 1, 1) := by decide +kernel
theorem d24_47 : decode prog_7_method_3_code 47 = .ok (.getfield 54, 3) := by decide +kernel
theorem d24_50 : decode prog_7_method_3_code 50 = .ok (.iload_n 2, 1) := by decide +kernel
theorem d24_51 : decode prog_7_method_3_code 51 = .ok (.aaload, 1) := by decide +kernel
theorem d24_52 : decode prog_7_method_3_code 52 = .ok (.invokevirtual 75, 3) := by decide +kernel
theorem d24_55 : decode prog_7_method_3_code 55 = .ok (.invokestatic 83, 3) := by decide +kernel
theorem d24_58 : decode prog_7_method_3_code 58 = .ok (.istore_n 3, 1) := by decide +kernel
theorem d24_59 : decode prog_7_method_3_code 59 = .ok (.iinc 4 1, 3) := by decide +kernel
theorem d24_62 : decode prog_7_method_3_code 62 = .ok (.goto (-33), 3) := by decide +kernel
theorem d24_65 : decode prog_7_method_3_code 65 = .ok (.iload_n 3, 1) := by decide +kernel
theorem d24_66 : decode prog_7_method_3_code 66 = .ok (.ireturn, 1) := by decide +kernel
theorem d25_0 : decode prog_7_method_7_code 0 = .ok (.aload_n 1, 1) := by decide +kernel
theorem d25_1 : decode prog_7_method_7_code 1 = .ok (.getfield 60, 3) := by decide +kernel
theorem d25_4 : decode prog_7_method_7_code 4 = .ok (.istore_n 2, 1) := by decide +kernel
theorem d25_5 : decode prog_7_method_7_code 5 = .ok (.aload_n 1, 1) := by decide +kernel
theorem d25_6 : decode prog_7_method_7_code 6 = .ok (.getfield 65, 3) := by decide +kernel
theorem d25_9 : decode prog_7_method_7_code 9 = .ok (.istore_n 3, 1) := by decide +kernel
theorem d25_10 : decode prog_7_method_7_code 10 = .ok (.aload_n 1, 1) := by decide +kernel
theorem d25_11 : decode prog_7_method_7_code 11 = .ok (.getfield 68, 3) := by decide +kernel
theorem d25_14 : decode prog_7_method_7_code 14 = .ok (.istore 4, 2) := by decide +kernel
theorem d25_16 : decode prog_7_method_7_code 16 = .ok (.iconst 0, 1) := by decide +kernel
theorem d25_17 : decode prog_7_method_7_code 17 = .ok (.istore 5, 2) := by decide +kernel
theorem d25_19 : decode prog_7_method_7_code 19 = .ok (.iconst 0, 1) := by decide +kernel
theorem d25_20 : decode prog_7_method_7_code 20 = .ok (.istore 6, 2) := by decide +kernel
theorem d25_22 : decode prog_7_method_7_code 22 = .ok (.iload 6, 2) := by decide +kernel
theorem d25_24 : decode prog_7_method_7_code 24 = .ok (.aload_n 0, 1) := by decide +kernel
theorem d25_25 : decode prog_7_method_7_code 25 = .ok (.getfield 42, 3) := by decide +kernel
theorem d25_28 : decode prog_7_method_7_code 28 = .ok (.if_icmp .ge 53, 3) := by decide +kernel
theorem d25_31 : decode prog_7_method_7_code 31 = .ok (.aload_n 0, 1) := by decide +kernel
theorem d25_32 : decode prog_7_method_7_code 32 = .ok (.getfield 11, 3) := by decide +kernel
theorem d25_35 : decode prog_7_method_7_code 35 = .ok (.iload 6, 2) := by decide +kernel
theorem d25_37 : decode prog_7_method_7_code 37 = .ok (.aaload, 1) := by decide +kernel
theorem d25_38 : decode prog_7_method_7_code 38 = .ok (.astore 7, 2) := by decide +kernel
theorem d25_40 : decode prog_7_method_7_code 40 = .ok (.aload 7, 2) := by decide +kernel
theorem d25_42 : decode prog_7_method_7_code 42 = .ok (.iload_n 2, 1) := by decide +kernel
theorem d25_43 : decode prog_7_method_7_code 43 = .ok (.iload_n 3, 1) := by decide +kernel
theorem d25_44 : decode prog_7_method_7_code 44 = .ok (.iload 4, 2) := by decide +kernel
theorem d25_46 : decode prog_7_method_7_code 46 = .ok (.invokevirtual 104, 3) := by decide +kernel
theorem d25_49 : decode prog_7_method_7_code 49 = .ok (.istore 4, 2) := by decide +kernel
theorem d25_51 : decode prog_7_method_7_code 51 = .ok (.iload 5, 2) := by decide +kernel
theorem d25_53 : decode prog_7_method_7_code 53 = .ok (.aload 7, 2) := by decide +kernel
theorem d25_55 : decode prog_7_method_7_code 55 = .ok (.iload 4, 2) := by decide +kernel
theorem d25_57 : decode prog_7_method_7_code 57 = .ok (.invokevirtual 113, 3) := by decide +kernel
theorem d25_60 : decode prog_7_method_7_code 60 = .ok (.iadd, 1) := by decide +kernel
theorem d25_61 : decode prog_7_method_7_code 61 = .ok (.istore 5, 2) := by decide +kernel
theorem d25_63 : decode prog_7_method_7_code 63 = .ok (.aload 7, 2) := by decide +kernel
theorem d25_65 : decode prog_7_method_7_code 65 = .ok (.getfield 111, 3) := by decide +kernel
theorem d25_68 : decode prog_7_method_7_code 68 = .ok (.istore_n 2, 1) := by decide +kernel
theorem d25_69 : decode prog_7_method_7_code 69 = .ok (.aload 7, 2) := by decide +kernel
theorem d25_71 : decode prog_7_method_7_code 71 = .ok (.getfield 112, 3) := by decide +kernel
theorem d25_74 : decode prog_7_method_7_code 74 = .ok (.istore_n 3, 1) := by decide +kernel
theorem d25_75 : decode prog_7_method_7_code 75 = .ok (.iinc 6 1, 3) := by decide +kernel
theorem d25_78 : decode prog_7_method_7_code 78 = .ok (.goto (-56), 3) := by decide +kernel
theorem d25_81 : decode prog_7_method_7_code 81 = .ok (.iload 5, 2) := by decide +kernel
theorem d25_83 : decode prog_7_method_7_code 83 = .ok (.ireturn, 1) := by decide +kernel
theorem d26_0 : decode prog_7_method_8_code 0 = .ok (.aload_n 0, 1) := by decide +kernel
theorem d26_1 : decode prog_7_method_8_code 1 = .ok (.getfield 42, 3) := by decide +kernel
theorem d26_4 : decode prog_7_method_8_code 4 = .ok (.iconst 2, 1) := by decide +kernel
theorem d26_5 : decode prog_7_method_8_code 5 = .ok (.isub, 1) := by decide +kernel
theorem d26_6 : decode prog_7_method_8_code 6 = .ok (.istore_n 1, 1) := by decide +kernel
theorem d26_7 : decode prog_7_method_8_code 7 = .ok (.iload_n 1, 1) := by decide +kernel
theorem d26_8 : decode prog_7_method_8_code 8 = .ok (.ifCond .lt 32, 3) := by decide +kernel
theorem d26_11 : decode prog_7_method_8_code 11 = .ok (.aload_n 0, 1) := by decide +kernel
theorem d26_12 : decode prog_7_method_8_code 12 = .ok (.getfield 11, 3) := by decide +kernel
theorem d26_15 : decode prog_7_method_8_code 15 = .ok (.iload_n 1, 1) := by decide +kernel
theorem d26_16 : decode prog_7_method_8_code 16 = .ok (.aaload, 1) := by decide +kernel
theorem d26_17 : decode prog_7_method_8_code 17 = .ok (.getfield 108, 3) := by decide +kernel
theorem d26_20 : decode prog_7_method_8_code 20 = .ok (.aload_n 0, 1) := by decide +kernel
theorem d26_21 : decode prog_7_method_8_code 21 = .ok (.getfield 11, 3) := by decide +kernel
theorem d26_24 : decode prog_7_method_8_code 24 = .ok (.iload_n 1, 1) := by decide +kernel
theorem d26_25 : decode prog_7_method_8_code 25 = .ok (.iconst 1, 1) := by decide +kernel
theorem d26_26 : decode prog_7_method_8_code 26 = .ok (.iadd, 1) := by decide +kernel
theorem d26_27 : decode prog_7_method_8_code 27 = .ok (.aaload, 1) := by decide +kernel
theorem d26_28 : decode prog_7_method_8_code 28 = .ok (.getfield 108, 3) := by decide +kernel
theorem d26_31 : decode prog_7_method_8_code 31 = .ok (.if_icmp .le 9, 3) := by decide +kernel
theorem d26_34 : decode prog_7_method_8_code 34 = .ok (.iinc 1 (-1), 3) := by decide +kernel
theorem d26_37 : decode prog_7_method_8_code 37 = .ok (.goto (-30), 3) := by decide +kernel
theorem d26_40 : decode prog_7_method_8_code 40 = .ok (.iload_n 1, 1) := by decide +kernel
theorem d26_41 : decode prog_7_method_8_code 41 = .ok (.ifCond .ge 5, 3) := by decide +kernel
theorem d26_44 : decode prog_7_method_8_code 44 = .ok (.iconst 0, 1) := by decide +kernel
theorem d26_45 : decode prog_7_method_8_code 45 = .ok (.ireturn, 1) := by decide +kernel
theorem d26_46 : decode prog_7_method_8_code 46 = .ok (.aload_n 0, 1) := by decide +kernel
theorem d26_47 : decode prog_7_method_8_code 47 = .ok (.getfield 42, 3) := by decide +kernel
theorem d26_50 : decode prog_7_method_8_code 50 = .ok (.iconst 1, 1) := by decide +kernel
theorem d26_51 : decode prog_7_method_8_code 51 = .ok (.isub, 1) := by decide +kernel
theorem d26_52 : decode prog_7_method_8_code 52 = .ok (.istore_n 2, 1) := by decide +kernel
theorem d26_53 : decode prog_7_method_8_code 53 = .ok (.iload_n 2, 1) := by decide +kernel
theorem d26_54 : decode prog_7_method_8_code 54 = .ok (.iload_n 1, 1) := by decide +kernel
theorem d26_55 : decode prog_7_method_8_code 55 = .ok (.if_icmp .le 30, 3) := by decide +kernel
theorem d26_58 : decode prog_7_method_8_code 58 = .ok (.aload_n 0, 1) := by decide +kernel
theorem d26_59 : decode prog_7_method_8_code 59 = .ok (.getfield 11, 3) := by decide +kernel
theorem d26_62 : decode prog_7_method_8_code 62 = .ok (.iload_n 2, 1) := by decide +kernel
theorem d26_63 : decode prog_7_method_8_code 63 = .ok (.aaload, 1) := by decide +kernel
theorem d26_64 : decode prog_7_method_8_code 64 = .ok (.getfield 108, 3) := by decide +kernel
theorem d26_67 : decode prog_7_method_8_code 67 = .ok (.aload_n 0, 1) := by decide +kernel
theorem d26_68 : decode prog_7_method_8_code 68 = .ok (.getfield 11, 3) := by decide +kernel
theorem d26_71 : decode prog_7_method_8_code 71 = .ok (.iload_n 1, 1) := by decide +kernel
theorem d26_72 : decode prog_7_method_8_code 72 = .ok (.aaload, 1) := by decide +kernel
theorem d26_73 : decode prog_7_method_8_code 73 = .ok (.getfield 108, 3) := by decide +kernel
theorem d26_76 : decode prog_7_method_8_code 76 = .ok (.if_icmp .ge 9, 3) := by decide +kernel
theorem d26_79 : decode prog_7_method_8_code 79 = .ok (.iinc 2 (-1), 3) := by decide +kernel
theorem d26_82 : decode prog_7_method_8_code 82 = .ok (.goto (-29), 3) := by decide +kernel
theorem d26_85 : decode prog_7_method_8_code 85 = .ok (.aload_n 0, 1) := by decide +kernel
theorem d26_86 : decode prog_7_method_8_code 86 = .ok (.iload_n 1, 1) := by decide +kernel
theorem d26_87 : decode prog_7_method_8_code 87 = .ok (.iload_n 2, 1) := by decide +kernel
theorem d26_88 : decode prog_7_method_8_code 88 = .ok (.invokevirtual 123, 3) := by decide +kernel
theorem d26_91 : decode prog_7_method_8_code 91 = .ok (.iload_n 1, 1) := by decide +kernel
theorem d26_92 : decode prog_7_method_8_code 92 = .ok (.iconst 1, 1) := by decide +kernel
theorem d26_93 : decode prog_7_method_8_code 93 = .ok (.iadd, 1) := by decide +kernel
theorem d26_94 : decode prog_7_method_8_code 94 = .ok (.istore_n 3, 1) := by decide +kernel
theorem d26_95 : decode prog_7_method_8_code 95 = .ok (.aload_n 0, 1) := by decide +kernel
theorem d26_96 : decode prog_7_method_8_code 96 = .ok (.getfield 42, 3) := by decide +kernel
theorem d26_99 : decode prog_7_method_8_code 99 = .ok (.iconst 1, 1) := by decide +kernel
theorem d26_100 : decode prog_7_method_8_code 100 = .ok (.isub, 1) := by decide +kernel
theorem d26_101 : decode prog_7_method_8_code 101 = .ok (.istore 4, 2) := by decide +kernel
theorem d26_103 : decode prog_7_method_8_code 103 = .ok (.iload_n 3, 1) := by decide +kernel
theorem d26_104 : decode prog_7_method_8_code 104 = .ok (.iload 4, 2) := by decide +kernel
theorem d26_106 : decode prog_7_method_8_code 106 = .ok (.if_icmp .ge 19, 3) := by decide +kernel
theorem d26_109 : decode prog_7_method_8_code 109 = .ok (.aload_n 0, 1) := by decide +kernel
theorem d26_110 : decode prog_7_method_8_code 110 = .ok (.iload_n 3, 1) := by decide +kernel
theorem d26_111 : decode prog_7_method_8_code 111 = .ok (.iload 4, 2) := by decide +kernel
theorem d26_113 : decode prog_7_method_8_code 113 = .ok (.invokevirtual 123, 3) := by decide +kernel
theorem d26_116 : decode prog_7_method_8_code 116 = .ok (.iinc 3 1, 3) := by decide +kernel
theorem d26_119 : decode prog_7_method_8_code 119 = .ok (.iinc 4 (-1), 3) := by decide +kernel
theorem d26_122 : decode prog_7_method_8_code 122 = .ok (.goto (-19), 3) := by decide +kernel
theorem d26_125 : decode prog_7_method_8_code 125 = .ok (.iconst 1, 1) := by decide +kernel
theorem d26_126 : decode prog_7_method_8_code 126 = .ok (.ireturn, 1) := by decide +kernel
theorem d27_0 : decode prog_7_method_9_code 0 = .ok (.aload_n 0, 1) := by decide +kernel
theorem d27_1 : decode prog_7_method_9_code 1 = .ok (.getfield 11, 3) := by decide +kernel
theorem d27_4 : decode prog_7_method_9_code 4 = .ok (.iload_n 1, 1) := by decide +kernel
theorem d27_5 : decode prog_7_method_9_code 5 = .ok (.aaload, 1) := by decide +kernel
theorem d27_6 : decode prog_7_method_9_code 6 = .ok (.astore_n 3, 1) := by decide +kernel
theorem d27_7 : decode prog_7_method_9_code 7 = .ok (.aload_n 0, 1) := by decide +kernel
theorem d27_8 : decode prog_7_method_9_code 8 = .ok (.getfield 11, 3) := by decide +kernel
theorem d27_11 : decode prog_7_method_9_code 11 = .ok (.iload_n 1, 1) := by decide +kernel
theorem d27_12 : decode prog_7_method_9_code 12 = .ok (.aload_n 0, 1) := by decide +kernel
theorem d27_13 : decode prog_7_method_9_code 13 = .ok (.getfield 11, 3) := by decide +kernel
theorem d27_16 : decode prog_7_method_9_code 16 = .ok (.iload_n 2, 1) := by decide +kernel
theorem d27_17 : decode prog_7_method_9_code 17 = .ok (.aaload, 1) := by decide +kernel
theorem d27_18 : decode prog_7_method_9_code 18 = .ok (.aastore, 1) := by decide +kernel
theorem d27_19 : decode prog_7_method_9_code 19 = .ok (.aload_n 0, 1) := by decide +kernel
theorem d27_20 : decode prog_7_method_9_code 20 = .ok (.getfield 11, 3) := by decide +kernel
theorem d27_23 : decode prog_7_method_9_code 23 = .ok (.iload_n 2, 1) := by decide +kernel
theorem d27_24 : decode prog_7_method_9_code 24 = .ok (.aload_n 3, 1) := by decide +kernel
theorem d27_25 : decode prog_7_method_9_code 25 = .ok (.aastore, 1) := by decide +kernel
theorem d27_26 : decode prog_7_method_9_code 26 = .ok (.return_, 1) := by decide +kernel
theorem d28_0 : decode prog_8_method_1_code 0 = .ok (.aload_n 0, 1) := by decide +kernel
theorem d28_1 : decode prog_8_method_1_code 1 = .ok (.invokespecial 3, 3) := by decide +kernel
theorem d28_4 : decode prog_8_method_1_code 4 = .ok (.aload_n 0, 1) := by decide +kernel
theorem d28_5 : decode prog_8_method_1_code 5 = .ok (.bipush 60, 2) := by decide +kernel
theorem d28_7 : decode prog_8_method_1_code 7 = .ok (.newarray .char, 2) := by decide +kernel
theorem d28_9 : decode prog_8_method_1_code 9 = .ok (.putfield 9, 3) := by decide +kernel
theorem d28_12 : decode prog_8_method_1_code 12 = .ok (.aload_n 0, 1) := by decide +kernel
theorem d28_13 : decode prog_8_method_1_code 13 = .ok (.iconst 0, 1) := by decide +kernel
theorem d28_14 : decode prog_8_method_1_code 14 = .ok (.putfield 15, 3) := by decide +kernel
theorem d28_17 : decode prog_8_method_1_code 17 = .ok (.aload_n 0, 1) := by decide +kernel
theorem d28_18 : decode prog_8_method_1_code 18 = .ok (.iconst 0, 1) := by decide +kernel
theorem d28_19 : decode prog_8_method_1_code 19 = .ok (.putfield 19, 3) := by decide +kernel
theorem d28_22 : decode prog_8_method_1_code 22 = .ok (.aload_n 0, 1) := by decide +kernel
theorem d28_23 : decode prog_8_method_1_code 23 = .ok (.bipush 9, 2) := by decide +kernel
theorem d28_25 : decode prog_8_method_1_code 25 = .ok (.anewarray 22, 3) := by decide +kernel
theorem d28_28 : decode prog_8_method_1_code 28 = .ok (.putfield 24, 3) := by decide +kernel
theorem d28_31 : decode prog_8_method_1_code 31 = .ok (.aload_n 0, 1) := by decide +kernel
theorem d28_32 : decode prog_8_method_1_code 32 = .ok (.iconst 0, 1) := by decide +kernel
theorem d28_33 : decode prog_8_method_1_code 33 = .ok (.putfield 28, 3) := by decide +kernel
theorem d28_36 : decode prog_8_method_1_code 36 = .ok (.iconst 0, 1) := by decide +kernel
theorem d28_37 : decode prog_8_method_1_code 37 = .ok (.istore_n 1, 1) := by decide +kernel
theorem d28_38 : decode prog_8_method_1_code 38 = .ok (.iload_n 1, 1) := by decide +kernel
theorem d28_39 : decode prog_8_method_1_code 39 = .ok (.bipush 9, 2) := by decide +kernel
theorem d28_41 : decode prog_8_method_1_code 41 = .ok (.if_icmp .ge 22, 3) := by decide +kernel
theorem d28_44 : decode prog_8_method_1_code 44 = .ok (.aload_n 0, 1) := by decide +kernel
theorem d28_45 : decode prog_8_method_1_code 45 = .ok (.getfield 24, 3) := by decide +kernel
theorem d28_48 : decode prog_8_method_1_code 48 = .ok (.iload_n 1, 1) := by decide +kernel
theorem d28_49 : decode prog_8_method_1_code 49 = .ok (.new 22, 3) := by decide +kernel
theorem d28_52 : decode prog_8_method_1_code 52 = .ok (.dup, 1) := by decide +kernel
theorem d28_53 : decode prog_8_method_1_code 53 = .ok (.invokespecial 31, 3) := by decide +kernel
theorem d28_56 : decode prog_8_method_1_code 56 = .ok (.aastore, 1) := by decide +kernel
theorem d28_57 : decode prog_8_method_1_code 57 = .ok (.iinc 1 1, 3) := by decide +kernel
theorem d28_60 : decode prog_8_method_1_code 60 = .ok (.goto (-22), 3) := by decide +kernel
theorem d28_63 : decode prog_8_method_1_code 63 = .ok (.return_, 1) := by decide +kernel
theorem d29_0 : decode prog_8_method_2_code 0 = .ok (.aload_n 0, 1) := by decide +kernel
theorem d29_1 : decode prog_8_method_2_code 1 = .ok (.getfield 15, 3) := by decide +kernel
theorem d29_4 : decode prog_8_method_2_code 4 = .ok (.bipush 60, 2) := by decide +kernel
theorem d29_6 : decode prog_8_method_2_code 6 = .ok (.if_icmp .lt 7, 3) := by decide +kernel
theorem d29_9 : decode prog_8_method_2_code 9 = .ok (.iconst 1, 1) := by decide +kernel
theorem d29_10 : decode prog_8_method_2_code 10 = .ok (.goto 4, 3) := by decide +kernel
theorem d29_13 : decode prog_8_method_2_code 13 = .ok (.iconst 0, 1) := by decide +kernel
theorem d29_14 : decode prog_8_method_2_code 14 = .ok (.ireturn, 1) := by decide +kernel
theorem d30_0 : decode prog_8_method_3_code 0 = .ok (.aload_n 0, 1) := by decide +kernel
theorem d30_1 : decode prog_8_method_3_code 1 = .ok (.getfield 15, 3) := by decide +kernel
theorem d30_4 : decode prog_8_method_3_code 4 = .ok (.bipush 60, 2) := by decide +kernel
theorem d30_6 : decode prog_8_method_3_code 6 = .ok (.if_icmp .ge 23, 3) := by decide +kernel
theorem d30_9 : decode prog_8_method_3_code 9 = .ok (.aload_n 0, 1) := by decide +kernel
theorem d30_10 : decode prog_8_method_3_code 10 = .ok (.getfield 9, 3) := by decide +kernel
theorem d30_13 : decode prog_8_method_3_code 13 = .ok (.aload_n 0, 1) := by decide +kernel
theorem d30_14 : decode prog_8_method_3_code 14 = .ok (.getfield 15, 3) := by decide +kernel
theorem d30_17 : decode prog_8_method_3_code 17 = .ok (.iload_n 1, 1) := by decide +kernel
theorem d30_18 : decode prog_8_method_3_code 18 = .ok (.castore, 1) := by decide +kernel
theorem d30_19 : decode prog_8_method_3_code 19 = .ok (.aload_n 0, 1) := by decide +kernel
theorem d30_20 : decode prog_8_method_3_code 20 = .ok (.dup, 1) := by decide +kernel
theorem d30_21 : decode prog_8_method_3_code 21 = .ok (.getfield 15, 3) := by decide +kernel
theorem d30_24 : decode prog_8_method_3_code 24 = .ok (.iconst 1, 1) := by decide +kernel
theorem d30_25 : decode prog_8_method_3_code 25 = .ok (.iadd, 1) := by decide +kernel
theorem d30_26 : decode prog_8_method_3_code 26 = .ok (.putfield 15, 3) := by decide +kernel
theorem d30_29 : decode prog_8_method_3_code 29 = .ok (.aload_n 0, 1) := by decide +kernel
theorem d30_30 : decode prog_8_method_3_code 30 = .ok (.getfield 15, 3) := by decide +kernel
theorem d30_33 : decode prog_8_method_3_code 33 = .ok (.ireturn, 1) := by decide +kernel
theorem d31_0 : decode prog_8_method_5_code 0 = .ok (.aload_n 0, 1) := by decide +kernel
theorem d31_1 : decode prog_8_method_5_code 1 = .ok (.iconst 0, 1) := by decide +kernel
theorem d31_2 : decode prog_8_method_5_code 2 = .ok (.putfield 19, 3) := by decide +kernel
theorem d31_5 : decode prog_8_method_5_code 5 = .ok (.aload_n 0, 1) := by decide +kernel
theorem d31_6 : decode prog_8_method_5_code 6 = .ok (.iconst 0, 1) := by decide +kernel
theorem d31_7 : decode prog_8_method_5_code 7 = .ok (.putfield 28, 3) := by decide +kernel
theorem d31_10 : decode prog_8_method_5_code 10 = .ok (.iconst 0, 1) := by decide +kernel
theorem d31_11 : decode prog_8_method_5_code 11 = .ok (.istore_n 1, 1) := by decide +kernel
theorem d31_12 : decode prog_8_method_5_code 12 = .ok (.iload_n 1, 1) := by decide +kernel
theorem d31_13 : decode prog_8_method_5_code 13 = .ok (.bipush 9, 2) := by decide +kernel
theorem d31_15 : decode prog_8_method_5_code 15 = .ok (.if_icmp .ge 61, 3) := by decide +kernel
theorem d31_18 : decode prog_8_method_5_code 18 = .ok (.aload_n 0, 1) := by decide +kernel
theorem d31_19 : decode prog_8_method_5_code 19 = .ok (.aload_n 0, 1) := by decide +kernel
theorem d31_20 : decode prog_8_method_5_code 20 = .ok (.getfield 24, 3) := by decide +kernel
theorem d31_23 : decode prog_8_method_5_code 23 = .ok (.iload_n 1, 1) := by decide +kernel
theorem d31_24 : decode prog_8_method_5_code 24 = .ok (.aaload, 1) := by decide +kernel
theorem d31_25 : decode prog_8_method_5_code 25 = .ok (.invokevirtual 32, 3) := by decide +kernel
theorem d31_28 : decode prog_8_method_5_code 28 = .ok (.ifCond .ne 8, 3) := by decide +kernel
theorem d31_31 : decode prog_8_method_5_code 31 = .ok (.aload_n 0, 1) := by decide +kernel
theorem d31_32 : decode prog_8_method_5_code 32 = .ok (.getfield 19, 3) := by decide +kernel
theorem d31_35 : decode prog_8_method_5_code 35 = .ok (.ireturn, 1) := by decide +kernel
theorem d31_36 : decode prog_8_method_5_code 36 = .ok (.aload_n 0, 1) := by decide +kernel
theorem d31_37 : decode prog_8_method_5_code 37 = .ok (.iload_n 1, 1) := by decide +kernel
theorem d31_38 : decode prog_8_method_5_code 38 = .ok (.iconst 1, 1) := by decide +kernel
theorem d31_39 : decode prog_8_method_5_code 39 = .ok (.iadd, 1) := by decide +kernel
theorem d31_40 : decode prog_8_method_5_code 40 = .ok (.putfield 28, 3) := by decide +kernel
theorem d31_43 : decode prog_8_method_5_code 43 = .ok (.aload_n 0, 1) := by decide +kernel
theorem d31_44 : decode prog_8_method_5_code 44 = .ok (.getfield 19, 3) := by decide +kernel
theorem d31_47 : decode prog_8_method_5_code 47 = .ok (.aload_n 0, 1) := by decide +kernel
theorem d31_48 : decode prog_8_method_5_code 48 = .ok (.getfield 15, 3) := by decide +kernel
theorem d31_51 : decode prog_8_method_5_code 51 = .ok (.if_icmp .lt 5, 3) := by decide +kernel
theorem d31_54 : decode prog_8_method_5_code 54 = .ok (.iconst (-1), 1) := by decide +kernel
theorem d31_55 : decode prog_8_method_5_code 55 = .ok (.ireturn, 1) := by decide +kernel
theorem d31_56 : decode prog_8_method_5_code 56 = .ok (.aload_n 0, 1) := by decide +kernel
theorem d31_57 : decode prog_8_method_5_code 57 = .ok (.bipush 59, 2) := by decide +kernel
theorem d31_59 : decode prog_8_method_5_code 59 = .ok (.invokevirtual 36, 3) := by decide +kernel
theorem d31_62 : decode prog_8_method_5_code 62 = .ok (.ifCond .ne 8, 3) := by decide +kernel
theorem d31_65 : decode prog_8_method_5_code 65 = .ok (.aload_n 0, 1) := by decide +kernel
theorem d31_66 : decode prog_8_method_5_code 66 = .ok (.getfield 19, 3) := by decide +kernel
theorem d31_69 : decode prog_8_method_5_code 69 = .ok (.ireturn, 1) := by decide +kernel
theorem d31_70 : decode prog_8_method_5_code 70 = .ok (.iinc 1 1, 3) := by decide +kernel
theorem d31_73 : decode prog_8_method_5_code 73 = .ok (.goto (-61), 3) := by decide +kernel
theorem d31_76 : decode prog_8_method_5_code 76 = .ok (.aload_n 0, 1) := by decide +kernel
theorem d31_77 : decode prog_8_method_5_code 77 = .ok (.getfield 19, 3) := by decide +kernel
theorem d31_80 : decode prog_8_method_5_code 80 = .ok (.ireturn, 1) := by decide +kernel
theorem d32_0 : decode prog_8_method_6_code 0 = .ok (.aload_n 0, 1) := by decide +kernel
theorem d32_1 : decode prog_8_method_6_code 1 = .ok (.getfield 19, 3) := by decide +kernel
theorem d32_4 : decode prog_8_method_6_code 4 = .ok (.istore_n 2, 1) := by decide +kernel
theorem d32_5 : decode prog_8_method_6_code 5 = .ok (.aload_n 0, 1) := by decide +kernel
theorem d32_6 : decode prog_8_method_6_code 6 = .ok (.getfield 19, 3) := by decide +kernel
theorem d32_9 : decode prog_8_method_6_code 9 = .ok (.istore_n 3, 1) := by decide +kernel
theorem d32_10 : decode prog_8_method_6_code 10 = .ok (.getstatic 40, 3) := by decide +kernel
theorem d32_13 : decode prog_8_method_6_code 13 = .ok (.astore 4, 2) := by decide +kernel
theorem d32_15 : decode prog_8_method_6_code 15 = .ok (.aload 4, 2) := by decide +kernel
theorem d32_17 : decode prog_8_method_6_code 17 = .ok (.arraylength, 1) := by decide +kernel
theorem d32_18 : decode prog_8_method_6_code 18 = .ok (.istore 5, 2) := by decide +kernel
theorem d32_20 : decode prog_8_method_6_code 20 = .ok (.iconst 0, 1) := by decide +kernel
theorem d32_21 : decode prog_8_method_6_code 21 = .ok (.istore 6, 2) := by decide +kernel
theorem d32_23 : decode prog_8_method_6_code 23 = .ok (.iload 6, 2) := by decide +kernel
theorem d32_25 : decode prog_8_method_6_code 25 = .ok (.iload 5, 2) := by decide +kernel
theorem d32_27 : decode prog_8_method_6_code 27 = .ok (.if_icmp .ge 54, 3) := by decide +kernel
theorem d32_30 : decode prog_8_method_6_code 30 = .ok (.aload 4, 2) := by decide +kernel
theorem d32_32 : decode prog_8_method_6_code 32 = .ok (.iload 6, 2) := by decide +kernel
theorem d32_34 : decode prog_8_method_6_code 34 = .ok (.aaload, 1) := by decide +kernel
theorem d32_35 : decode prog_8_method_6_code 35 = .ok (.astore 7, 2) := by decide +kernel
theorem d32_37 : decode prog_8_method_6_code 37 = .ok (.aload_n 0, 1) := by decide +kernel
theorem d32_38 : decode prog_8_method_6_code 38 = .ok (.iload_n 2, 1) := by decide +kernel
theorem d32_39 : decode prog_8_method_6_code 39 = .ok (.putfield 19, 3) := by decide +kernel
theorem d32_42 : decode prog_8_method_6_code 42 = .ok (.aload_n 0, 1) := by decide +kernel
theorem d32_43 : decode prog_8_method_6_code 43 = .ok (.aload 7, 2) := by decide +kernel
theorem d32_45 : decode prog_8_method_6_code 45 = .ok (.getfield 44, 3) := by decide +kernel
theorem d32_48 : decode prog_8_method_6_code 48 = .ok (.aload_n 1, 1) := by decide +kernel
theorem d32_49 : decode prog_8_method_6_code 49 = .ok (.getfield 50, 3) := by decide +kernel
theorem d32_52 : decode prog_8_method_6_code 52 = .ok (.invokevirtual 54, 3) := by decide +kernel
theorem d32_55 : decode prog_8_method_6_code 55 = .ok (.ifCond .eq 11, 3) := by decide +kernel
theorem d32_58 : decode prog_8_method_6_code 58 = .ok (.aload_n 1, 1) := by decide +kernel
theorem d32_59 : decode prog_8_method_6_code 59 = .ok (.aload 7, 2) := by decide +kernel
theorem d32_61 : decode prog_8_method_6_code 61 = .ok (.putfield 58, 3) := by decide +kernel
theorem d32_64 : decode prog_8_method_6_code 64 = .ok (.iconst 1, 1) := by decide +kernel
theorem d32_65 : decode prog_8_method_6_code 65 = .ok (.ireturn, 1) := by decide +kernel
theorem d32_66 : decode prog_8_method_6_code 66 = .ok (.iload_n 3, 1) := by decide +kernel
theorem d32_67 : decode prog_8_method_6_code 67 = .ok (.aload_n 0, 1) := by decide +kernel
theorem d32_68 : decode prog_8_method_6_code 68 = .ok (.getfield 19, 3) := by decide +kernel
theorem d32_71 : decode prog_8_method_6_code 71 = .ok (.invokestatic 62, 3) := by decide +kernel
theorem d32_74 : decode prog_8_method_6_code 74 = .ok (.istore_n 3, 1) := by decide +kernel
theorem d32_75 : decode prog_8_method_6_code 75 = .ok (.iinc 6 1, 3) := by decide +kernel
theorem d32_78 : decode prog_8_method_6_code 78 = .ok (.goto (-55), 3) := by decide +kernel
theorem d32_81 : decode prog_8_method_6_code 81 = .ok (.aload_n 0, 1) := by decide +kernel
theorem d32_82 : decode prog_8_method_6_code 82 = .ok (.iload_n 3, 1) := by decide +kernel
theorem d32_83 : decode prog_8_method_6_code 83 = .ok (.putfield 19, 3) := by decide +kernel
theorem d32_86 : decode prog_8_method_6_code 86 = .ok (.iconst 0, 1) := by decide +kernel
theorem d32_87 : decode prog_8_method_6_code 87 = .ok (.ireturn, 1) := by decide +kernel
theorem d33_0 : decode prog_8_method_7_code 0 = .ok (.iconst 0, 1) := by decide +kernel
theorem d33_1 : decode prog_8_method_7_code 1 = .ok (.istore_n 3, 1) := by decide +kernel
theorem d33_2 : decode prog_8_method_7_code 2 = .ok (.iconst 0, 1) := by decide +kernel
theorem d33_3 : decode prog_8_method_7_code 3 = .ok (.istore 4, 2) := by decide +kernel
theorem d33_5 : decode prog_8_method_7_code 5 = .ok (.iload 4, 2) := by decide +kernel
theorem d33_7 : decode prog_8_method_7_code 7 = .ok (.aload_n 1, 1) := by decide +kernel
theorem d33_8 : decode prog_8_method_7_code 8 = .ok (.invokevirtual 68, 3) := by decide +kernel
theorem d33_11 : decode prog_8_method_7_code 11 = .ok (.if_icmp .ge 82, 3) := by decide +kernel
theorem d33_14 : decode prog_8_method_7_code 14 = .ok (.aload_n 1, 1) := by decide +kernel
theorem d33_15 : decode prog_8_method_7_code 15 = .ok (.iload 4, 2) := by decide +kernel
theorem d33_17 : decode prog_8_method_7_code 17 = .ok (.invokevirtual 73, 3) := by decide +kernel
theorem d33_20 : decode prog_8_method_7_code 20 = .ok (.istore 5, 2) := by decide +kernel
theorem d33_22 : decode prog_8_method_7_code 22 = .ok (.iload 5, 2) := by decide +kernel
theorem d33_24 : decode prog_8_method_7_code 24 = .ok (.bipush 35, 2) := by decide +kernel
theorem d33_26 : decode prog_8_method_7_code 26 = .ok (.if_icmp .eq 17, 3) := by decide +kernel
theorem d33_29 : decode prog_8_method_7_code 29 = .ok (.iload 5, 2) := by decide +kernel
theorem d33_31 : decode prog_8_method_7_code 31 = .ok (.bipush 37, 2) := by decide +kernel
theorem d33_33 : decode prog_8_method_7_code 33 = .ok (.if_icmp .eq 10, 3) := by decide +kernel
theorem d33_36 : decode prog_8_method_7_code 36 = .ok (.iload 5, 2) := by decide +kernel
theorem d33_38 : decode prog_8_method_7_code 38 = .ok (.bipush 63, 2) := by decide +kernel
theorem d33_40 : decode prog_8_method_7_code 40 = .ok (.if_icmp .ne 36, 3) := by decide +kernel
theorem d33_43 : decode prog_8_method_7_code 43 = .ok (.aload_n 0, 1) := by decide +kernel
theorem d33_44 : decode prog_8_method_7_code 44 = .ok (.iload 5, 2) := by decide +kernel
theorem d33_46 : decode prog_8_method_7_code 46 = .ok (.invokevirtual 77, 3) := by decide +kernel
theorem d33_49 : decode prog_8_method_7_code 49 = .ok (.istore 6, 2) := by decide +kernel
theorem d33_51 : decode prog_8_method_7_code 51 = .ok (.iload 6, 2) := by decide +kernel
theorem d33_53 : decode prog_8_method_7_code 53 = .ok (.iconst (-1), 1) := by decide +kernel
theorem d33_54 : decode prog_8_method_7_code 54 = .ok (.if_icmp .eq 9, 3) := by decide +kernel
theorem d33_57 : decode prog_8_method_7_code 57 = .ok (.iload_n 3, 1) := by decide +kernel
theorem d33_58 : decode prog_8_method_7_code 58 = .ok (.aload_n 2, 1) := by decide +kernel
theorem d33_59 : decode prog_8_method_7_code 59 = .ok (.arraylength, 1) := by decide +kernel
theorem d33_60 : decode prog_8_method_7_code 60 = .ok (.if_icmp .lt 5, 3) := by decide +kernel
theorem d33_63 : decode prog_8_method_7_code 63 = .ok (.iconst 0, 1) := by decide +kernel
theorem d33_64 : decode prog_8_method_7_code 64 = .ok (.ireturn, 1) := by decide +kernel
theorem d33_65 : decode prog_8_method_7_code 65 = .ok (.aload_n 2, 1) := by decide +kernel
theorem d33_66 : decode prog_8_method_7_code 66 = .ok (.iload_n 3, 1) := by decide +kernel
theorem d33_67 : decode prog_8_method_7_code 67 = .ok (.iload 6, 2) := by decide +kernel
theorem d33_69 : decode prog_8_method_7_code 69 = .ok (.iastore, 1) := by decide +kernel
theorem d33_70 : decode prog_8_method_7_code 70 = .ok (.iinc 3 1, 3) := by decide +kernel
theorem d33_73 : decode prog_8_method_7_code 73 = .ok (.goto 14, 3) := by decide +kernel
theorem d33_76 : decode prog_8_method_7_code 76 = .ok (.aload_n 0, 1) := by decide +kernel
theorem d33_77 : decode prog_8_method_7_code 77 = .ok (.iload 5, 2) := by decide +kernel
theorem d33_79 : decode prog_8_method_7_code 79 = .ok (.invokevirtual 36, 3) := by decide +kernel
theorem d33_82 : decode prog_8_method_7_code 82 = .ok (.ifCond .ne 5, 3) := by decide +kernel
theorem d33_85 : decode prog_8_method_7_code 85 = .ok (.iconst 0, 1) := by decide +kernel
theorem d33_86 : decode prog_8_method_7_code 86 = .ok (.ireturn, 1) := by decide +kernel
theorem d33_87 : decode prog_8_method_7_code 87 = .ok (.iinc 4 1, 3) := by decide +kernel
theorem d33_90 : decode prog_8_method_7_code 90 = .ok (.goto (-85), 3) := by decide +kernel
theorem d33_93 : decode prog_8_method_7_code 93 = .ok (.iconst 1, 1) := by decide +kernel
theorem d33_94 : decode prog_8_method_7_code 94 = .ok (.ireturn, 1) := by decide +kernel
theorem d34_0 : decode prog_8_method_8_code 0 = .ok (.iload_n 1, 1) := by decide +kernel
theorem d34_1 : decode prog_8_method_8_code 1 = .ok (.bipush 35, 2) := by decide +kernel
theorem d34_3 : decode prog_8_method_8_code 3 = .ok (.if_icmp .ne 8, 3) := by decide +kernel
theorem d34_6 : decode prog_8_method_8_code 6 = .ok (.aload_n 0, 1) := by decide +kernel
theorem d34_7 : decode prog_8_method_8_code 7 = .ok (.invokevirtual 81, 3) := by decide +kernel
theorem d34_10 : decode prog_8_method_8_code 10 = .ok (.ireturn, 1) := by decide +kernel
theorem d34_11 : decode prog_8_method_8_code 11 = .ok (.iload_n 1, 1) := by decide +kernel
theorem d34_12 : decode prog_8_method_8_code 12 = .ok (.bipush 37, 2) := by decide +kernel
theorem d34_14 : decode prog_8_method_8_code 14 = .ok (.if_icmp .ne 10, 3) := by decide +kernel
theorem d34_17 : decode prog_8_method_8_code 17 = .ok (.aload_n 0, 1) := by decide +kernel
theorem d34_18 : decode prog_8_method_8_code 18 = .ok (.invokevirtual 84, 3) := by decide +kernel
theorem d34_21 : decode prog_8_method_8_code 21 = .ok (.goto 7, 3) := by decide +kernel
theorem d34_24 : decode prog_8_method_8_code 24 = .ok (.aload_n 0, 1) := by decide +kernel
theorem d34_25 : decode prog_8_method_8_code 25 = .ok (.invokevirtual 87, 3) := by decide +kernel
theorem d34_28 : decode prog_8_method_8_code 28 = .ok (.ireturn, 1) := by decide +kernel
theorem d35_0 : decode prog_8_method_9_code 0 = .ok (.aload_n 0, 1) := by decide +kernel
theorem d35_1 : decode prog_8_method_9_code 1 = .ok (.invokevirtual 84, 3) := by decide +kernel
theorem d35_4 : decode prog_8_method_9_code 4 = .ok (.istore_n 1, 1) := by decide +kernel
theorem d35_5 : decode prog_8_method_9_code 5 = .ok (.iload_n 1, 1) := by decide +kernel
theorem d35_6 : decode prog_8_method_9_code 6 = .ok (.istore_n 2, 1) := by decide +kernel
theorem d35_7 : decode prog_8_method_9_code 7 = .ok (.iconst 1, 1) := by decide +kernel
theorem d35_8 : decode prog_8_method_9_code 8 = .ok (.istore_n 3, 1) := by decide +kernel
theorem d35_9 : decode prog_8_method_9_code 9 = .ok (.iload_n 3, 1) := by decide +kernel
theorem d35_10 : decode prog_8_method_9_code 10 = .ok (.iconst 3, 1) := by decide +kernel
theorem d35_11 : decode prog_8_method_9_code 11 = .ok (.if_icmp .ge 31, 3) := by decide +kernel
theorem d35_14 : decode prog_8_method_9_code 14 = .ok (.iload_n 2, 1) := by decide +kernel
theorem d35_15 : decode prog_8_method_9_code 15 = .ok (.iconst (-1), 1) := by decide +kernel
theorem d35_16 : decode prog_8_method_9_code 16 = .ok (.if_icmp .eq 26, 3) := by decide +kernel
theorem d35_19 : decode prog_8_method_9_code 19 = .ok (.aload_n 0, 1) := by decide +kernel
theorem d35_20 : decode prog_8_method_9_code 20 = .ok (.invokevirtual 84, 3) := by decide +kernel
theorem d35_23 : decode prog_8_method_9_code 23 = .ok (.istore_n 2, 1) := by decide +kernel
theorem d35_24 : decode prog_8_method_9_code 24 = .ok (.iload_n 2, 1) := by decide +kernel
theorem d35_25 : decode prog_8_method_9_code 25 = .ok (.iconst (-1), 1) := by decide +kernel
theorem d35_26 : decode prog_8_method_9_code 26 = .ok (.if_icmp .eq 10, 3) := by decide +kernel
theorem d35_29 : decode prog_8_method_9_code 29 = .ok (.bipush 10, 2) := by decide +kernel
theorem d35_31 : decode prog_8_method_9_code 31 = .ok (.iload_n 1, 1) := by decide +kernel
theorem d35_32 : decode prog_8_method_9_code 32 = .ok (.imul, 1) := by decide +kernel
theorem d35_33 : decode prog_8_method_9_code 33 = .ok (.iload_n 2, 1) := by decide +kernel
theorem d35_34 : decode prog_8_method_9_code 34 = .ok (.iadd, 1) := by decide +kernel
theorem d35_35 : decode prog_8_method_9_code 35 = .ok (.istore_n 1, 1) := by decide +kernel
theorem d35_36 : decode prog_8_method_9_code 36 = .ok (.iinc 3 1, 3) := by decide +kernel
theorem d35_39 : decode prog_8_method_9_code 39 = .ok (.goto (-30), 3) := by decide +kernel
theorem d35_42 : decode prog_8_method_9_code 42 = .ok (.iload_n 1, 1) := by decide +kernel
theorem d35_43 : decode prog_8_method_9_code 43 = .ok (.ireturn, 1) := by decide +kernel
theorem d36_0 : decode prog_8_method_10_code 0 = .ok (.aload_n 0, 1) := by decide +kernel
theorem d36_1 : decode prog_8_method_10_code 1 = .ok (.getfield 19, 3) := by decide +kernel
theorem d36_4 : decode prog_8_method_10_code 4 = .ok (.aload_n 0, 1) := by decide +kernel
theorem d36_5 : decode prog_8_method_10_code 5 = .ok (.getfield 15, 3) := by decide +kernel
theorem d36_8 : decode prog_8_method_10_code 8 = .ok (.if_icmp .ge 31, 3) := by decide +kernel
theorem d36_11 : decode prog_8_method_10_code 11 = .ok (.aload_n 0, 1) := by decide +kernel
theorem d36_12 : decode prog_8_method_10_code 12 = .ok (.getfield 9, 3) := by decide +kernel
theorem d36_15 : decode prog_8_method_10_code 15 = .ok (.aload_n 0, 1) := by decide +kernel
theorem d36_16 : decode prog_8_method_10_code 16 = .ok (.getfield 19, 3) := by decide +kernel
theorem d36_19 : decode prog_8_method_10_code 19 = .ok (.caload, 1) := by decide +kernel
theorem d36_20 : decode prog_8_method_10_code 20 = .ok (.bipush 48, 2) := by decide +kernel
theorem d36_22 : decode prog_8_method_10_code 22 = .ok (.if_icmp .lt 17, 3) := by decide +kernel
theorem d36_25 : decode prog_8_method_10_code 25 = .ok (.aload_n 0, 1) := by decide +kernel
theorem d36_26 : decode prog_8_method_10_code 26 = .ok (.getfield 9, 3) := by decide +kernel
theorem d36_29 : decode prog_8_method_10_code 29 = .ok (.aload_n 0, 1) := by decide +kernel
theorem d36_30 : decode prog_8_method_10_code 30 = .ok (.getfield 19, 3) := by decide +kernel
theorem d36_33 : decode prog_8_method_10_code 33 = .ok (.caload, 1) := by decide +kernel
theorem d36_34 : decode prog_8_method_10_code 34 = .ok (.bipush 57, 2) := by decide +kernel
theorem d36_36 : decode prog_8_method_10_code 36 = .ok (.if_icmp .le 5, 3) := by decide +kernel
theorem d36_39 : decode prog_8_method_10_code 39 = .ok (.iconst (-1), 1) := by decide +kernel
theorem d36_40 : decode prog_8_method_10_code 40 = .ok (.ireturn, 1) := by decide +kernel
theorem d36_41 : decode prog_8_method_10_code 41 = .ok (.aload_n 0, 1) := by decide +kernel
theorem d36_42 : decode prog_8_method_10_code 42 = .ok (.getfield 9, 3) := by decide +kernel
theorem d36_45 : decode prog_8_method_10_code 45 = .ok (.aload_n 0, 1) := by decide +kernel
theorem d36_46 : decode prog_8_method_10_code 46 = .ok (.getfield 19, 3) := by decide +kernel
theorem d36_49 : decode prog_8_method_10_code 49 = .ok (.caload, 1) := by decide +kernel
theorem d36_50 : decode prog_8_method_10_code 50 = .ok (.bipush 48, 2) := by decide +kernel
theorem d36_52 : decode prog_8_method_10_code 52 = .ok (.isub, 1) := by decide +kernel
theorem d36_53 : decode prog_8_method_10_code 53 = .ok (.istore_n 1, 1) := by decide +kernel
theorem d36_54 : decode prog_8_method_10_code 54 = .ok (.aload_n 0, 1) := by decide +kernel
theorem d36_55 : decode prog_8_method_10_code 55 = .ok (.dup, 1) := by decide +kernel
theorem d36_56 : decode prog_8_method_10_code 56 = .ok (.getfield 19, 3) := by decide +kernel
theorem d36_59 : decode prog_8_method_10_code 59 = .ok (.iconst 1, 1) := by decide +kernel
theorem d36_60 : decode prog_8_method_10_code 60 = .ok (.iadd, 1) := by decide +kernel
theorem d36_61 : decode prog_8_method_10_code 61 = .ok (.putfield 19, 3) := by decide +kernel
theorem d36_64 : decode prog_8_method_10_code 64 = .ok (.iload_n 1, 1) := by decide +kernel
theorem d36_65 : decode prog_8_method_10_code 65 = .ok (.ireturn, 1) := by decide +kernel
theorem d37_0 : decode prog_8_method_11_code 0 = .ok (.aload_n 0, 1) := by decide +kernel
theorem d37_1 : decode prog_8_method_11_code 1 = .ok (.getfield 19, 3) := by decide +kernel
theorem d37_4 : decode prog_8_method_11_code 4 = .ok (.aload_n 0, 1) := by decide +kernel
theorem d37_5 : decode prog_8_method_11_code 5 = .ok (.getfield 15, 3) := by decide +kernel
theorem d37_8 : decode prog_8_method_11_code 8 = .ok (.if_icmp .ge 18, 3) := by decide +kernel
theorem d37_11 : decode prog_8_method_11_code 11 = .ok (.aload_n 0, 1) := by decide +kernel
theorem d37_12 : decode prog_8_method_11_code 12 = .ok (.getfield 9, 3) := by decide +kernel
theorem d37_15 : decode prog_8_method_11_code 15 = .ok (.aload_n 0, 1) := by decide +kernel
theorem d37_16 : decode prog_8_method_11_code 16 = .ok (.getfield 19, 3) := by decide +kernel
theorem d37_19 : decode prog_8_method_11_code 19 = .ok (.caload, 1) := by decide +kernel
theorem d37_20 : decode prog_8_method_11_code 20 = .ok (.invokestatic 90, 3) := by decide +kernel
theorem d37_23 : decode prog_8_method_11_code 23 = .ok (.goto 4, 3) := by decide +kernel
theorem d37_26 : decode prog_8_method_11_code 26 = .ok (.iconst (-1), 1) := by decide +kernel
theorem d37_27 : decode prog_8_method_11_code 27 = .ok (.istore_n 1, 1) := by decide +kernel
theorem d37_28 : decode prog_8_method_11_code 28 = .ok (.iload_n 1, 1) := by decide +kernel
theorem d37_29 : decode prog_8_method_11_code 29 = .ok (.iconst (-1), 1) := by decide +kernel
theorem d37_30 : decode prog_8_method_11_code 30 = .ok (.if_icmp .eq 13, 3) := by decide +kernel
theorem d37_33 : decode prog_8_method_11_code 33 = .ok (.aload_n 0, 1) := by decide +kernel
theorem d37_34 : decode prog_8_method_11_code 34 = .ok (.dup, 1) := by decide +kernel
theorem d37_35 : decode prog_8_method_11_code 35 = .ok (.getfield 19, 3) := by decide +kernel
theorem d37_38 : decode prog_8_method_11_code 38 = .ok (.iconst 1, 1) := by decide +kernel
theorem d37_39 : decode prog_8_method_11_code 39 = .ok (.iadd, 1) := by decide +kernel
theorem d37_40 : decode prog_8_method_11_code 40 = .ok (.putfield 19, 3) := by decide +kernel
theorem d37_43 : decode prog_8_method_11_code 43 = .ok (.iload_n 1, 1) := by decide +kernel
theorem d37_44 : decode prog_8_method_11_code 44 = .ok (.ireturn, 1) := by decide +kernel
theorem d38_0 : decode prog_8_method_12_code 0 = .ok (.aload_n 0, 1) := by decide +kernel
theorem d38_1 : decode prog_8_method_12_code 1 = .ok (.getfield 19, 3) := by decide +kernel
theorem d38_4 : decode prog_8_method_12_code 4 = .ok (.aload_n 0, 1) := by decide +kernel
theorem d38_5 : decode prog_8_method_12_code 5 = .ok (.getfield 15, 3) := by decide +kernel
theorem d38_8 : decode prog_8_method_12_code 8 = .ok (.if_icmp .ge 16, 3) := by decide +kernel
theorem d38_11 : decode prog_8_method_12_code 11 = .ok (.aload_n 0, 1) := by decide +kernel
theorem d38_12 : decode prog_8_method_12_code 12 = .ok (.getfield 9, 3) := by decide +kernel
theorem d38_15 : decode prog_8_method_12_code 15 = .ok (.aload_n 0, 1) := by decide +kernel
theorem d38_16 : decode prog_8_method_12_code 16 = .ok (.getfield 19, 3) := by decide +kernel
theorem d38_19 : decode prog_8_method_12_code 19 = .ok (.caload, 1) := by decide +kernel
theorem d38_20 : decode prog_8_method_12_code 20 = .ok (.iload_n 1, 1) := by decide +kernel
theorem d38_21 : decode prog_8_method_12_code 21 = .ok (.if_icmp .eq 5, 3) := by decide +kernel
theorem d38_24 : decode prog_8_method_12_code 24 = .ok (.iconst 0, 1) := by decide +kernel
theorem d38_25 : decode prog_8_method_12_code 25 = .ok (.ireturn, 1) := by decide +kernel
theorem d38_26 : decode prog_8_method_12_code 26 = .ok (.aload_n 0, 1) := by decide +kernel
theorem d38_27 : decode prog_8_method_12_code 27 = .ok (.dup, 1) := by decide +kernel
theorem d38_28 : decode prog_8_method_12_code 28 = .ok (.getfield 19, 3) := by decide +kernel
theorem d38_31 : decode prog_8_method_12_code 31 = .ok (.iconst 1, 1) := by decide +kernel
theorem d38_32 : decode prog_8_method_12_code 32 = .ok (.iadd, 1) := by decide +kernel
theorem d38_33 : decode prog_8_method_12_code 33 = .ok (.putfield 19, 3) := by decide +kernel
theorem d38_36 : decode prog_8_method_12_code 36 = .ok (.iconst 1, 1) := by decide +kernel
theorem d38_37 : decode prog_8_method_12_code 37 = .ok (.ireturn, 1) := by decide +kernel
theorem d39_0 : decode prog_8_method_4_code 0 = .ok (.aload_n 0, 1) := by decide +kernel
theorem d39_1 : decode prog_8_method_4_code 1 = .ok (.iconst 0, 1) := by decide +kernel
theorem d39_2 : decode prog_8_method_4_code 2 = .ok (.putfield 15, 3) := by decide +kernel
theorem d39_5 : decode prog_8_method_4_code 5 = .ok (.return_, 1) := by decide +kernel
theorem d40_0 : decode prog_9_method_1_code 0 = .ok (.aload_n 0, 1) := by decide +kernel
theorem d40_1 : decode prog_9_method_1_code 1 = .ok (.invokespecial 3, 3) := by decide +kernel
theorem d40_4 : decode prog_9_method_1_code 4 = .ok (.aload_n 0, 1) := by decide +kernel
theorem d40_5 : decode prog_9_method_1_code 5 = .ok (.bipush 12, 2) := by decide +kernel
theorem d40_7 : decode prog_9_method_1_code 7 = .ok (.anewarray 9, 3) := by decide +kernel
theorem d40_10 : decode prog_9_method_1_code 10 = .ok (.putfield 11, 3) := by decide +kernel
theorem d40_13 : decode prog_9_method_1_code 13 = .ok (.aload_n 0, 1) := by decide +kernel
theorem d40_14 : decode prog_9_method_1_code 14 = .ok (.iconst 0, 1) := by decide +kernel
theorem d40_15 : decode prog_9_method_1_code 15 = .ok (.putfield 17, 3) := by decide +kernel
theorem d40_18 : decode prog_9_method_1_code 18 = .ok (.aload_n 0, 1) := by decide +kernel
theorem d40_19 : decode prog_9_method_1_code 19 = .ok (.iconst 0, 1) := by decide +kernel
theorem d40_20 : decode prog_9_method_1_code 20 = .ok (.putfield 21, 3) := by decide +kernel
theorem d40_23 : decode prog_9_method_1_code 23 = .ok (.aload_n 0, 1) := by decide +kernel
theorem d40_24 : decode prog_9_method_1_code 24 = .ok (.iconst 3, 1) := by decide +kernel
theorem d40_25 : decode prog_9_method_1_code 25 = .ok (.anewarray 24, 3) := by decide +kernel
theorem d40_28 : decode prog_9_method_1_code 28 = .ok (.putfield 26, 3) := by decide +kernel
theorem d40_31 : decode prog_9_method_1_code 31 = .ok (.aload_n 0, 1) := by decide +kernel
theorem d40_32 : decode prog_9_method_1_code 32 = .ok (.iconst 4, 1) := by decide +kernel
theorem d40_33 : decode prog_9_method_1_code 33 = .ok (.newarray .int, 2) := by decide +kernel
theorem d40_35 : decode prog_9_method_1_code 35 = .ok (.putfield 30, 3) := by decide +kernel
theorem d40_38 : decode prog_9_method_1_code 38 = .ok (.aload_n 0, 1) := by decide +kernel
theorem d40_39 : decode prog_9_method_1_code 39 = .ok (.bipush 6, 2) := by decide +kernel
theorem d40_41 : decode prog_9_method_1_code 41 = .ok (.newarray .int, 2) := by decide +kernel
theorem d40_43 : decode prog_9_method_1_code 43 = .ok (.putfield 34, 3) := by decide +kernel
theorem d40_46 : decode prog_9_method_1_code 46 = .ok (.aload_n 0, 1) := by decide +kernel
theorem d40_47 : decode prog_9_method_1_code 47 = .ok (.iconst 0, 1) := by decide +kernel
theorem d40_48 : decode prog_9_method_1_code 48 = .ok (.putfield 37, 3) := by decide +kernel
theorem d40_51 : decode prog_9_method_1_code 51 = .ok (.aload_n 0, 1) := by decide +kernel
theorem d40_52 : decode prog_9_method_1_code 52 = .ok (.lconst 0, 1) := by decide +kernel
theorem d40_53 : decode prog_9_method_1_code 53 = .ok (.putfield 40, 3) := by decide +kernel
theorem d40_56 : decode prog_9_method_1_code 56 = .ok (.aload_n 0, 1) := by decide +kernel
theorem d40_57 : decode prog_9_method_1_code 57 = .ok (.lconst 0, 1) := by decide +kernel
theorem d40_58 : decode prog_9_method_1_code 58 = .ok (.putfield 44, 3) := by decide +kernel
theorem d40_61 : decode prog_9_method_1_code 61 = .ok (.iconst 0, 1) := by decide +kernel
theorem d40_62 : decode prog_9_method_1_code 62 = .ok (.istore_n 1, 1) := by decide +kernel
theorem d40_63 : decode prog_9_method_1_code 63 = .ok (.iload_n 1, 1) := by decide +kernel
theorem d40_64 : decode prog_9_method_1_code 64 = .ok (.bipush 12, 2) := by decide +kernel
theorem d40_66 : decode prog_9_method_1_code 66 = .ok (.if_icmp .ge 22, 3) := by decide +kernel
theorem d40_69 : decode prog_9_method_1_code 69 = .ok (.aload_n 0, 1) := by decide +kernel
theorem d40_70 : decode prog_9_method_1_code 70 = .ok (.getfield 11, 3) := by decide +kernel
theorem d40_73 : decode prog_9_method_1_code 73 = .ok (.iload_n 1, 1) := by decide +kernel
theorem d40_74 : decode prog_9_method_1_code 74 = .ok (.new 9, 3) := by decide +kernel
theorem d40_77 : decode prog_9_method_1_code 77 = .ok (.dup, 1) := by decide +kernel
theorem d40_78 : decode prog_9_method_1_code 78 = .ok (.invokespecial 47, 3) := by decide +kernel
theorem d40_81 : decode prog_9_method_1_code 81 = .ok (.aastore, 1) := by decide +kernel
theorem d40_82 : decode prog_9_method_1_code 82 = .ok (.iinc 1 1, 3) := by decide +kernel
theorem d40_85 : decode prog_9_method_1_code 85 = .ok (.goto (-22), 3) := by decide +kernel
theorem d40_88 : decode prog_9_method_1_code 88 = .ok (.iconst 0, 1) := by decide +kernel
theorem d40_89 : decode prog_9_method_1_code 89 = .ok (.istore_n 1, 1) := by decide +kernel
theorem d40_90 : decode prog_9_method_1_code 90 = .ok (.iload_n 1, 1) := by decide +kernel
theorem d40_91 : decode prog_9_method_1_code 91 = .ok (.iconst 3, 1) := by decide +kernel
theorem d40_92 : decode prog_9_method_1_code 92 = .ok (.if_icmp .ge 22, 3) := by decide +kernel
theorem d40_95 : decode prog_9_method_1_code 95 = .ok (.aload_n 0, 1) := by decide +kernel
theorem d40_96 : decode prog_9_method_1_code 96 = .ok (.getfield 26, 3) := by decide +kernel
theorem d40_99 : decode prog_9_method_1_code 99 = .ok (.iload_n 1, 1) := by decide +kernel
theorem d40_100 : decode prog_9_method_1_code 100 = .ok (.new 24, 3) := by decide +kernel
theorem d40_103 : decode prog_9_method_1_code 103 = .ok (.dup, 1) := by decide +kernel
theorem d40_104 : decode prog_9_method_1_code 104 = .ok (.invokespecial 48, 3) := by decide +kernel
theorem d40_107 : decode prog_9_method_1_code 107 = .ok (.aastore, 1) := by decide +kernel
theorem d40_108 : decode prog_9_method_1_code 108 = .ok (.iinc 1 1, 3) := by decide +kernel
theorem d40_111 : decode prog_9_method_1_code 111 = .ok (.goto (-21), 3) := by decide +kernel
theorem d40_114 : decode prog_9_method_1_code 114 = .ok (.iconst 0, 1) := by decide +kernel
theorem d40_115 : decode prog_9_method_1_code 115 = .ok (.istore_n 1, 1) := by decide +kernel
theorem d40_116 : decode prog_9_method_1_code 116 = .ok (.iload_n 1, 1) := by decide +kernel
theorem d40_117 : decode prog_9_method_1_code 117 = .ok (.bipush 6, 2) := by decide +kernel
theorem d40_119 : decode prog_9_method_1_code 119 = .ok (.if_icmp .ge 16, 3) := by decide +kernel
theorem d40_122 : decode prog_9_method_1_code 122 = .ok (.aload_n 0, 1) := by decide +kernel
theorem d40_123 : decode prog_9_method_1_code 123 = .ok (.getfield 34, 3) := by decide +kernel
theorem d40_126 : decode prog_9_method_1_code 126 = .ok (.iload_n 1, 1) := by decide +kernel
theorem d40_127 : decode prog_9_method_1_code 127 = .ok (.iconst (-1), 1) := by decide +kernel
theorem d40_128 : decode prog_9_method_1_code 128 = .ok (.iastore, 1) := by decide +kernel
theorem d40_129 : decode prog_9_method_1_code 129 = .ok (.iinc 1 1, 3) := by decide +kernel
theorem d40_132 : decode prog_9_method_1_code 132 = .ok (.goto (-16), 3) := by decide +kernel
theorem d40_135 : decode prog_9_method_1_code 135 = .ok (.return_, 1) := by decide +kernel
theorem d41_0 : decode prog_9_method_14_code 0 = .ok (.iconst 0, 1) := by decide +kernel
theorem d41_1 : decode prog_9_method_14_code 1 = .ok (.istore_n 2, 1) := by decide +kernel
theorem d41_2 : decode prog_9_method_14_code 2 = .ok (.iload_n 2, 1) := by decide +kernel
theorem d41_3 : decode prog_9_method_14_code 3 = .ok (.aload_n 0, 1) := by decide +kernel
theorem d41_4 : decode prog_9_method_14_code 4 = .ok (.getfield 17, 3) := by decide +kernel
theorem d41_7 : decode prog_9_method_14_code 7 = .ok (.if_icmp .ge 29, 3) := by decide +kernel
theorem d41_10 : decode prog_9_method_14_code 10 = .ok (.aload_n 0, 1) := by decide +kernel
theorem d41_11 : decode prog_9_method_14_code 11 = .ok (.getfield 11, 3) := by decide +kernel
theorem d41_14 : decode prog_9_method_14_code 14 = .ok (.iload_n 2, 1) := by decide +kernel
theorem d41_15 : decode prog_9_method_14_code 15 = .ok (.aaload, 1) := by decide +kernel
theorem d41_16 : decode prog_9_method_14_code 16 = .ok (.getfield 72, 3) := by decide +kernel
theorem d41_19 : decode prog_9_method_14_code 19 = .ok (.iload_n 1, 1) := by decide +kernel
theorem d41_20 : decode prog_9_method_14_code 20 = .ok (.if_icmp .ne 10, 3) := by decide +kernel
theorem d41_23 : decode prog_9_method_14_code 23 = .ok (.aload_n 0, 1) := by decide +kernel
theorem d41_24 : decode prog_9_method_14_code 24 = .ok (.getfield 11, 3) := by decide +kernel
theorem d41_27 : decode prog_9_method_14_code 27 = .ok (.iload_n 2, 1) := by decide +kernel
theorem d41_28 : decode prog_9_method_14_code 28 = .ok (.aaload, 1) := by decide +kernel
theorem d41_29 : decode prog_9_method_14_code 29 = .ok (.areturn, 1) := by decide +kernel
theorem d41_30 : decode prog_9_method_14_code 30 = .ok (.iinc 2 1, 3) := by decide +kernel
theorem d41_33 : decode prog_9_method_14_code 33 = .ok (.goto (-31), 3) := by decide +kernel
theorem d41_36 : decode prog_9_method_14_code 36 = .ok (.aconst_null, 1) := by decide +kernel
theorem d41_37 : decode prog_9_method_14_code 37 = .ok (.areturn, 1) := by decide +kernel
theorem d42_0 : decode prog_9_method_18_code 0 = .ok (.iconst 0, 1) := by decide +kernel
theorem d42_1 : decode prog_9_method_18_code 1 = .ok (.istore_n 2, 1) := by decide +kernel
theorem d42_2 : decode prog_9_method_18_code 2 = .ok (.iconst 0, 1) := by decide +kernel
theorem d42_3 : decode prog_9_method_18_code 3 = .ok (.istore_n 3, 1) := by decide +kernel
theorem d42_4 : decode prog_9_method_18_code 4 = .ok (.iload_n 3, 1) := by decide +kernel
theorem d42_5 : decode prog_9_method_18_code 5 = .ok (.aload_n 0, 1) := by decide +kernel
theorem d42_6 : decode prog_9_method_18_code 6 = .ok (.getfield 17, 3) := by decide +kernel
theorem d42_9 : decode prog_9_method_18_code 9 = .ok (.if_icmp .ge 25, 3) := by decide +kernel
theorem d42_12 : decode prog_9_method_18_code 12 = .ok (.aload_n 0, 1) := by decide +kernel
theorem d42_13 : decode prog_9_method_18_code 13 = .ok (.getfield 11, 3) := by decide +kernel
theorem d42_16 : decode prog_9_method_18_code 16 = .ok (.iload_n 3, 1) := by decide +kernel
theorem d42_17 : decode prog_9_method_18_code 17 = .ok (.aaload, 1) := by decide +kernel
theorem d42_18 : decode prog_9_method_18_code 18 = .ok (.getfield 93, 3) := by decide +kernel
theorem d42_21 : decode prog_9_method_18_code 21 = .ok (.iload_n 1, 1) := by decide +kernel
theorem d42_22 : decode prog_9_method_18_code 22 = .ok (.if_icmp .ne 6, 3) := by decide +kernel
theorem d42_25 : decode prog_9_method_18_code 25 = .ok (.iinc 2 1, 3) := by decide +kernel
theorem d42_28 : decode prog_9_method_18_code 28 = .ok (.iinc 3 1, 3) := by decide +kernel
theorem d42_31 : decode prog_9_method_18_code 31 = .ok (.goto (-27), 3) := by decide +kernel
theorem d42_34 : decode prog_9_method_18_code 34 = .ok (.iload_n 2, 1) := by decide +kernel
theorem d42_35 : decode prog_9_method_18_code 35 = .ok (.ireturn, 1) := by decide +kernel
theorem d43_0 : decode prog_9_method_2_code 0 = .ok (.iconst 0, 1) := by decide +kernel
theorem d43_1 : decode prog_9_method_2_code 1 = .ok (.istore_n 2, 1) := by decide +kernel
theorem d43_2 : decode prog_9_method_2_code 2 = .ok (.iload_n 2, 1) := by decide +kernel
theorem d43_3 : decode prog_9_method_2_code 3 = .ok (.bipush 12, 2) := by decide +kernel
theorem d43_5 : decode prog_9_method_2_code 5 = .ok (.if_icmp .ge 24, 3) := by decide +kernel
theorem d43_8 : decode prog_9_method_2_code 8 = .ok (.aload_n 0, 1) := by decide +kernel
theorem d43_9 : decode prog_9_method_2_code 9 = .ok (.getfield 11, 3) := by decide +kernel
theorem d43_12 : decode prog_9_method_2_code 12 = .ok (.iload_n 2, 1) := by decide +kernel
theorem d43_13 : decode prog_9_method_2_code 13 = .ok (.aaload, 1) := by decide +kernel
theorem d43_14 : decode prog_9_method_2_code 14 = .ok (.aload_n 1, 1) := by decide +kernel
theorem d43_15 : decode prog_9_method_2_code 15 = .ok (.getfield 11, 3) := by decide +kernel
theorem d43_18 : decode prog_9_method_2_code 18 = .ok (.iload_n 2, 1) := by decide +kernel
theorem d43_19 : decode prog_9_method_2_code 19 = .ok (.aaload, 1) := by decide +kernel
theorem d43_20 : decode prog_9_method_2_code 20 = .ok (.invokevirtual 49, 3) := by decide +kernel
theorem d43_23 : decode prog_9_method_2_code 23 = .ok (.iinc 2 1, 3) := by decide +kernel
theorem d43_26 : decode prog_9_method_2_code 26 = .ok (.goto (-24), 3) := by decide +kernel
theorem d43_29 : decode prog_9_method_2_code 29 = .ok (.aload_n 0, 1) := by decide +kernel
theorem d43_30 : decode prog_9_method_2_code 30 = .ok (.aload_n 1, 1) := by decide +kernel
theorem d43_31 : decode prog_9_method_2_code 31 = .ok (.getfield 17, 3) := by decide +kernel
theorem d43_34 : decode prog_9_method_2_code 34 = .ok (.putfield 17, 3) := by decide +kernel
theorem d43_37 : decode prog_9_method_2_code 37 = .ok (.aload_n 0, 1) := by decide +kernel
theorem d43_38 : decode prog_9_method_2_code 38 = .ok (.aload_n 1, 1) := by decide +kernel
theorem d43_39 : decode prog_9_method_2_code 39 = .ok (.getfield 21, 3) := by decide +kernel
theorem d43_42 : decode prog_9_method_2_code 42 = .ok (.putfield 21, 3) := by decide +kernel
theorem d43_45 : decode prog_9_method_2_code 45 = .ok (.iconst 0, 1) := by decide +kernel
theorem d43_46 : decode prog_9_method_2_code 46 = .ok (.istore_n 2, 1) := by decide +kernel
theorem d43_47 : decode prog_9_method_2_code 47 = .ok (.iload_n 2, 1) := by decide +kernel
theorem d43_48 : decode prog_9_method_2_code 48 = .ok (.iconst 3, 1) := by decide +kernel
theorem d43_49 : decode prog_9_method_2_code 49 = .ok (.if_icmp .ge 24, 3) := by decide +kernel
theorem d43_52 : decode prog_9_method_2_code 52 = .ok (.aload_n 0, 1) := by decide +kernel
theorem d43_53 : decode prog_9_method_2_code 53 = .ok (.getfield 26, 3) := by decide +kernel
theorem d43_56 : decode prog_9_method_2_code 56 = .ok (.iload_n 2, 1) := by decide +kernel
theorem d43_57 : decode prog_9_method_2_code 57 = .ok (.aaload, 1) := by decide +kernel
theorem d43_58 : decode prog_9_method_2_code 58 = .ok (.aload_n 1, 1) := by decide +kernel
theorem d43_59 : decode prog_9_method_2_code 59 = .ok (.getfield 26, 3) := by decide +kernel
theorem d43_62 : decode prog_9_method_2_code 62 = .ok (.iload_n 2, 1) := by decide +kernel
theorem d43_63 : decode prog_9_method_2_code 63 = .ok (.aaload, 1) := by decide +kernel
theorem d43_64 : decode prog_9_method_2_code 64 = .ok (.invokevirtual 53, 3) := by decide +kernel
theorem d43_67 : decode prog_9_method_2_code 67 = .ok (.iinc 2 1, 3) := by decide +kernel
theorem d43_70 : decode prog_9_method_2_code 70 = .ok (.goto (-23), 3) := by decide +kernel
theorem d43_73 : decode prog_9_method_2_code 73 = .ok (.aload_n 1, 1) := by decide +kernel
theorem d43_74 : decode prog_9_method_2_code 74 = .ok (.getfield 30, 3) := by decide +kernel
theorem d43_77 : decode prog_9_method_2_code 77 = .ok (.iconst 0, 1) := by decide +kernel
theorem d43_78 : decode prog_9_method_2_code 78 = .ok (.aload_n 0, 1) := by decide +kernel
theorem d43_79 : decode prog_9_method_2_code 79 = .ok (.getfield 30, 3) := by decide +kernel
theorem d43_82 : decode prog_9_method_2_code 82 = .ok (.iconst 0, 1) := by decide +kernel
theorem d43_83 : decode prog_9_method_2_code 83 = .ok (.iconst 4, 1) := by decide +kernel
theorem d43_84 : decode prog_9_method_2_code 84 = .ok (.invokestatic 56, 3) := by decide +kernel
theorem d43_87 : decode prog_9_method_2_code 87 = .ok (.aload_n 1, 1) := by decide +kernel
theorem d43_88 : decode prog_9_method_2_code 88 = .ok (.getfield 34, 3) := by decide +kernel
theorem d43_91 : decode prog_9_method_2_code 91 = .ok (.iconst 0, 1) := by decide +kernel
theorem d43_92 : decode prog_9_method_2_code 92 = .ok (.aload_n 0, 1) := by decide +kernel
theorem d43_93 : decode prog_9_method_2_code 93 = .ok (.getfield 34, 3) := by decide +kernel
theorem d43_96 : decode prog_9_method_2_code 96 = .ok (.iconst 0, 1) := by decide +kernel
theorem d43_97 : decode prog_9_method_2_code 97 = .ok (.bipush 6, 2) := by decide +kernel
theorem d43_99 : decode prog_9_method_2_code 99 = .ok (.invokestatic 56, 3) := by decide +kernel
theorem d43_102 : decode prog_9_method_2_code 102 = .ok (.aload_n 0, 1) := by decide +kernel
theorem d43_103 : decode prog_9_method_2_code 103 = .ok (.aload_n 1, 1) := by decide +kernel
theorem d43_104 : decode prog_9_method_2_code 104 = .ok (.getfield 37, 3) := by decide +kernel
theorem d43_107 : decode prog_9_method_2_code 107 = .ok (.putfield 37, 3) := by decide +kernel
theorem d43_110 : decode prog_9_method_2_code 110 = .ok (.aload_n 0, 1) := by decide +kernel
theorem d43_111 : decode prog_9_method_2_code 111 = .ok (.aload_n 1, 1) := by decide +kernel
theorem d43_112 : decode prog_9_method_2_code 112 = .ok (.getfield 40, 3) := by decide +kernel
theorem d43_115 : decode prog_9_method_2_code 115 = .ok (.putfield 40, 3) := by decide +kernel
theorem d43_118 : decode prog_9_method_2_code 118 = .ok (.aload_n 0, 1) := by decide +kernel
theorem d43_119 : decode prog_9_method_2_code 119 = .ok (.aload_n 1, 1) := by decide +kernel
theorem d43_120 : decode prog_9_method_2_code 120 = .ok (.getfield 44, 3) := by decide +kernel
theorem d43_123 : decode prog_9_method_2_code 123 = .ok (.putfield 44, 3) := by decide +kernel
theorem d43_126 : decode prog_9_method_2_code 126 = .ok (.return_, 1) := by decide +kernel
theorem d44_0 : decode prog_9_method_3_code 0 = .ok (.iload_n 1, 1) := by decide +kernel
theorem d44_1 : decode prog_9_method_3_code 1 = .ok (.invokestatic 62, 3) := by decide +kernel
theorem d44_4 : decode prog_9_method_3_code 4 = .ok (.ifCond .eq 51, 3) := by decide +kernel
theorem d44_7 : decode prog_9_method_3_code 7 = .ok (.iload_n 2, 1) := by decide +kernel
theorem d44_8 : decode prog_9_method_3_code 8 = .ok (.invokestatic 62, 3) := by decide +kernel
theorem d44_11 : decode prog_9_method_3_code 11 = .ok (.ifCond .eq 44, 3) := by decide +kernel
theorem d44_14 : decode prog_9_method_3_code 14 = .ok (.iload_n 3, 1) := by decide +kernel
theorem d44_15 : decode prog_9_method_3_code 15 = .ok (.invokestatic 66, 3) := by decide +kernel
theorem d44_18 : decode prog_9_method_3_code 18 = .ok (.ifCond .eq 37, 3) := by decide +kernel
theorem d44_21 : decode prog_9_method_3_code 21 = .ok (.iload 4, 2) := by decide +kernel
theorem d44_23 : decode prog_9_method_3_code 23 = .ok (.invokestatic 69, 3) := by decide +kernel
theorem d44_26 : decode prog_9_method_3_code 26 = .ok (.ifCond .eq 29, 3) := by decide +kernel
theorem d44_29 : decode prog_9_method_3_code 29 = .ok (.iload 5, 2) := by decide +kernel
theorem d44_31 : decode prog_9_method_3_code 31 = .ok (.iconst 1, 1) := by decide +kernel
theorem d44_32 : decode prog_9_method_3_code 32 = .ok (.if_icmp .lt 23, 3) := by decide +kernel
theorem d44_35 : decode prog_9_method_3_code 35 = .ok (.iload 5, 2) := by decide +kernel
theorem d44_37 : decode prog_9_method_3_code 37 = .ok (.iconst 4, 1) := by decide +kernel
theorem d44_38 : decode prog_9_method_3_code 38 = .ok (.if_icmp .gt 17, 3) := by decide +kernel
theorem d44_41 : decode prog_9_method_3_code 41 = .ok (.iload 6, 2) := by decide +kernel
theorem d44_43 : decode prog_9_method_3_code 43 = .ok (.iconst 1, 1) := by decide +kernel
theorem d44_44 : decode prog_9_method_3_code 44 = .ok (.if_icmp .lt 11, 3) := by decide +kernel
theorem d44_47 : decode prog_9_method_3_code 47 = .ok (.iload 6, 2) := by decide +kernel
theorem d44_49 : decode prog_9_method_3_code 49 = .ok (.sipush 199, 3) := by decide +kernel
theorem d44_52 : decode prog_9_method_3_code 52 = .ok (.if_icmp .le 5, 3) := by decide +kernel
theorem d44_55 : decode prog_9_method_3_code 55 = .ok (.iconst (-1), 1) := by decide +kernel
theorem d44_56 : decode prog_9_method_3_code 56 = .ok (.ireturn, 1) := by decide +kernel
theorem d44_57 : decode prog_9_method_3_code 57 = .ok (.aload_n 0, 1) := by decide +kernel
theorem d44_58 : decode prog_9_method_3_code 58 = .ok (.getfield 17, 3) := by decide +kernel
theorem d44_61 : decode prog_9_method_3_code 61 = .ok (.bipush 12, 2) := by decide +kernel
theorem d44_63 : decode prog_9_method_3_code 63 = .ok (.if_icmp .lt 6, 3) := by decide +kernel
theorem d44_66 : decode prog_9_method_3_code 66 = .ok (.bipush (-2), 2) := by decide +kernel
theorem d44_68 : decode prog_9_method_3_code 68 = .ok (.ireturn, 1) := by decide +kernel
theorem d44_69 : decode prog_9_method_3_code 69 = .ok (.aload_n 0, 1) := by decide +kernel
theorem d44_70 : decode prog_9_method_3_code 70 = .ok (.getfield 11, 3) := by decide +kernel
theorem d44_73 : decode prog_9_method_3_code 73 = .ok (.aload_n 0, 1) := by decide +kernel
theorem d44_74 : decode prog_9_method_3_code 74 = .ok (.getfield 17, 3) := by decide +kernel
theorem d44_77 : decode prog_9_method_3_code 77 = .ok (.aaload, 1) := by decide +kernel
theorem d44_78 : decode prog_9_method_3_code 78 = .ok (.astore 7, 2) := by decide +kernel
theorem d44_80 : decode prog_9_method_3_code 80 = .ok (.aload 7, 2) := by decide +kernel
theorem d44_82 : decode prog_9_method_3_code 82 = .ok (.aload_n 0, 1) := by decide +kernel
theorem d44_83 : decode prog_9_method_3_code 83 = .ok (.getfield 21, 3) := by decide +kernel
theorem d44_86 : decode prog_9_method_3_code 86 = .ok (.putfield 72, 3) := by decide +kernel
theorem d44_89 : decode prog_9_method_3_code 89 = .ok (.aload 7, 2) := by decide +kernel
theorem d44_91 : decode prog_9_method_3_code 91 = .ok (.iload_n 1, 1) := by decide +kernel
theorem d44_92 : decode prog_9_method_3_code 92 = .ok (.putfield 75, 3) := by decide +kernel
theorem d44_95 : decode prog_9_method_3_code 95 = .ok (.aload 7, 2) := by decide +kernel
theorem d44_97 : decode prog_9_method_3_code 97 = .ok (.iload_n 2, 1) := by decide +kernel
theorem d44_98 : decode prog_9_method_3_code 98 = .ok (.putfield 78, 3) := by decide +kernel
theorem d44_101 : decode prog_9_method_3_code 101 = .ok (.aload 7, 2) := by decide +kernel
theorem d44_103 : decode prog_9_method_3_code 103 = .ok (.iload_n 3, 1) := by decide +kernel
theorem d44_104 : decode prog_9_method_3_code 104 = .ok (.putfield 81, 3) := by decide +kernel
theorem d44_107 : decode prog_9_method_3_code 107 = .ok (.aload 7, 2) := by decide +kernel
theorem d44_109 : decode prog_9_method_3_code 109 = .ok (.iload 4, 2) := by decide +kernel
theorem d44_111 : decode prog_9_method_3_code 111 = .ok (.putfield 84, 3) := by decide +kernel
theorem d44_114 : decode prog_9_method_3_code 114 = .ok (.aload 7, 2) := by decide +kernel
theorem d44_116 : decode prog_9_method_3_code 116 = .ok (.iload 5, 2) := by decide +kernel
theorem d44_118 : decode prog_9_method_3_code 118 = .ok (.putfield 87, 3) := by decide +kernel
theorem d44_121 : decode prog_9_method_3_code 121 = .ok (.aload 7, 2) := by decide +kernel
theorem d44_123 : decode prog_9_method_3_code 123 = .ok (.iload 6, 2) := by decide +kernel
theorem d44_125 : decode prog_9_method_3_code 125 = .ok (.putfield 90, 3) := by decide +kernel
theorem d44_128 : decode prog_9_method_3_code 128 = .ok (.aload 7, 2) := by decide +kernel
theorem d44_130 : decode prog_9_method_3_code 130 = .ok (.iconst (-1), 1) := by decide +kernel
theorem d44_131 : decode prog_9_method_3_code 131 = .ok (.putfield 93, 3) := by decide +kernel
theorem d44_134 : decode prog_9_method_3_code 134 = .ok (.aload_n 0, 1) := by decide +kernel
theorem d44_135 : decode prog_9_method_3_code 135 = .ok (.dup, 1) := by decide +kernel
theorem d44_136 : decode prog_9_method_3_code 136 = .ok (.getfield 17, 3) := by decide +kernel
theorem d44_139 : decode prog_9_method_3_code 139 = .ok (.iconst 1, 1) := by decide +kernel
theorem d44_140 : decode prog_9_method_3_code 140 = .ok (.iadd, 1) := by decide +kernel
theorem d44_141 : decode prog_9_method_3_code 141 = .ok (.putfield 17, 3) := by decide +kernel
theorem d44_144 : decode prog_9_method_3_code 144 = .ok (.aload_n 0, 1) := by decide +kernel
theorem d44_145 : decode prog_9_method_3_code 145 = .ok (.dup, 1) := by decide +kernel
theorem d44_146 : decode prog_9_method_3_code 146 = .ok (.getfield 21, 3) := by decide +kernel
theorem d44_149 : decode prog_9_method_3_code 149 = .ok (.iconst 1, 1) := by decide +kernel
theorem d44_150 : decode prog_9_method_3_code 150 = .ok (.iadd, 1) := by decide +kernel
theorem d44_151 : decode prog_9_method_3_code 151 = .ok (.putfield 21, 3) := by decide +kernel
theorem d44_154 : decode prog_9_method_3_code 154 = .ok (.aload 7, 2) := by decide +kernel
theorem d44_156 : decode prog_9_method_3_code 156 = .ok (.getfield 72, 3) := by decide +kernel
theorem d44_159 : decode prog_9_method_3_code 159 = .ok (.ireturn, 1) := by decide +kernel
theorem d45_0 : decode prog_9_method_4_code 0 = .ok (.aload_n 0, 1) := by decide +kernel
theorem d45_1 : decode prog_9_method_4_code 1 = .ok (.iload_n 1, 1) := by decide +kernel
theorem d45_2 : decode prog_9_method_4_code 2 = .ok (.invokevirtual 96, 3) := by decide +kernel
theorem d45_5 : decode prog_9_method_4_code 5 = .ok (.astore_n 2, 1) := by decide +kernel
theorem d45_6 : decode prog_9_method_4_code 6 = .ok (.aload_n 2, 1) := by decide +kernel
theorem d45_7 : decode prog_9_method_4_code 7 = .ok (.ifnonnull 6, 3) := by decide +kernel
theorem d45_10 : decode prog_9_method_4_code 10 = .ok (.bipush (-4), 2) := by decide +kernel
theorem d45_12 : decode prog_9_method_4_code 12 = .ok (.ireturn, 1) := by decide +kernel
theorem d45_13 : decode prog_9_method_4_code 13 = .ok (.aload_n 0, 1) := by decide +kernel
theorem d45_14 : decode prog_9_method_4_code 14 = .ok (.aload_n 2, 1) := by decide +kernel
theorem d45_15 : decode prog_9_method_4_code 15 = .ok (.invokevirtual 100, 3) := by decide +kernel
theorem d45_18 : decode prog_9_method_4_code 18 = .ok (.aload_n 0, 1) := by decide +kernel
theorem d45_19 : decode prog_9_method_4_code 19 = .ok (.getfield 17, 3) := by decide +kernel
theorem d45_22 : decode prog_9_method_4_code 22 = .ok (.ireturn, 1) := by decide +kernel
theorem d46_0 : decode prog_9_method_15_code 0 = .ok (.iconst 0, 1) := by decide +kernel
theorem d46_1 : decode prog_9_method_15_code 1 = .ok (.istore_n 2, 1) := by decide +kernel
theorem d46_2 : decode prog_9_method_15_code 2 = .ok (.iconst 0, 1) := by decide +kernel
theorem d46_3 : decode prog_9_method_15_code 3 = .ok (.istore_n 3, 1) := by decide +kernel
theorem d46_4 : decode prog_9_method_15_code 4 = .ok (.iload_n 3, 1) := by decide +kernel
theorem d46_5 : decode prog_9_method_15_code 5 = .ok (.aload_n 0, 1) := by decide +kernel
theorem d46_6 : decode prog_9_method_15_code 6 = .ok (.getfield 17, 3) := by decide +kernel
theorem d46_9 : decode prog_9_method_15_code 9 = .ok (.if_icmp .ge 34, 3) := by decide +kernel
theorem d46_12 : decode prog_9_method_15_code 12 = .ok (.aload_n 0, 1) := by decide +kernel
theorem d46_13 : decode prog_9_method_15_code 13 = .ok (.getfield 11, 3) := by decide +kernel
theorem d46_16 : decode prog_9_method_15_code 16 = .ok (.iload_n 3, 1) := by decide +kernel
theorem d46_17 : decode prog_9_method_15_code 17 = .ok (.aaload, 1) := by decide +kernel
theorem d46_18 : decode prog_9_method_15_code 18 = .ok (.aload_n 1, 1) := by decide +kernel
theorem d46_19 : decode prog_9_method_15_code 19 = .ok (.if_acmp .eq 18, 3) := by decide +kernel
theorem d46_22 : decode prog_9_method_15_code 22 = .ok (.aload_n 0, 1) := by decide +kernel
theorem d46_23 : decode prog_9_method_15_code 23 = .ok (.getfield 11, 3) := by decide +kernel
theorem d46_26 : decode prog_9_method_15_code 26 = .ok (.iload_n 2, 1) := by decide +kernel
theorem d46_27 : decode prog_9_method_15_code 27 = .ok (.aload_n 0, 1) := by decide +kernel
theorem d46_28 : decode prog_9_method_15_code 28 = .ok (.getfield 11, 3) := by decide +kernel
theorem d46_31 : decode prog_9_method_15_code 31 = .ok (.iload_n 3, 1) := by decide +kernel
theorem d46_32 : decode prog_9_method_15_code 32 = .ok (.aaload, 1) := by decide +kernel
theorem d46_33 : decode prog_9_method_15_code 33 = .ok (.aastore, 1) := by decide +kernel
theorem d46_34 : decode prog_9_method_15_code 34 = .ok (.iinc 2 1, 3) := by decide +kernel
theorem d46_37 : decode prog_9_method_15_code 37 = .ok (.iinc 3 1, 3) := by decide +kernel
theorem d46_40 : decode prog_9_method_15_code 40 = .ok (.goto (-36), 3) := by decide +kernel
theorem d46_43 : decode prog_9_method_15_code 43 = .ok (.iload_n 2, 1) := by decide +kernel
theorem d46_44 : decode prog_9_method_15_code 44 = .ok (.aload_n 0, 1) := by decide +kernel
theorem d46_45 : decode prog_9_method_15_code 45 = .ok (.getfield 17, 3) := by decide +kernel
theorem d46_48 : decode prog_9_method_15_code 48 = .ok (.if_icmp .ge 15, 3) := by decide +kernel
theorem d46_51 : decode prog_9_method_15_code 51 = .ok (.aload_n 0, 1) := by decide +kernel
theorem d46_52 : decode prog_9_method_15_code 52 = .ok (.getfield 11, 3) := by decide +kernel
theorem d46_55 : decode prog_9_method_15_code 55 = .ok (.iload_n 2, 1) := by decide +kernel
theorem d46_56 : decode prog_9_method_15_code 56 = .ok (.aload_n 1, 1) := by decide +kernel
theorem d46_57 : decode prog_9_method_15_code 57 = .ok (.aastore, 1) := by decide +kernel
theorem d46_58 : decode prog_9_method_15_code 58 = .ok (.aload_n 0, 1) := by decide +kernel
theorem d46_59 : decode prog_9_method_15_code 59 = .ok (.iload_n 2, 1) := by decide +kernel
theorem d46_60 : decode prog_9_method_15_code 60 = .ok (.putfield 17, 3) := by decide +kernel
theorem d46_63 : decode prog_9_method_15_code 63 = .ok (.return_, 1) := by decide +kernel
theorem d47_0 : decode prog_9_method_5_code 0 = .ok (.aload_n 0, 1) := by decide +kernel
theorem d47_1 : decode prog_9_method_5_code 1 = .ok (.iload_n 1, 1) := by decide +kernel
theorem d47_2 : decode prog_9_method_5_code 2 = .ok (.invokevirtual 96, 3) := by decide +kernel
theorem d47_5 : decode prog_9_method_5_code 5 = .ok (.astore_n 3, 1) := by decide +kernel
theorem d47_6 : decode prog_9_method_5_code 6 = .ok (.aload_n 3, 1) := by decide +kernel
theorem d47_7 : decode prog_9_method_5_code 7 = .ok (.ifnonnull 6, 3) := by decide +kernel
theorem d47_10 : decode prog_9_method_5_code 10 = .ok (.bipush (-4), 2) := by decide +kernel
theorem d47_12 : decode prog_9_method_5_code 12 = .ok (.ireturn, 1) := by decide +kernel
theorem d47_13 : decode prog_9_method_5_code 13 = .ok (.iload_n 2, 1) := by decide +kernel
theorem d47_14 : decode prog_9_method_5_code 14 = .ok (.invokestatic 103, 3) := by decide +kernel
theorem d47_17 : decode prog_9_method_5_code 17 = .ok (.ifCond .ne 6, 3) := by decide +kernel
theorem d47_20 : decode prog_9_method_5_code 20 = .ok (.bipush (-3), 2) := by decide +kernel
theorem d47_22 : decode prog_9_method_5_code 22 = .ok (.ireturn, 1) := by decide +kernel
theorem d47_23 : decode prog_9_method_5_code 23 = .ok (.aload_n 3, 1) := by decide +kernel
theorem d47_24 : decode prog_9_method_5_code 24 = .ok (.getfield 93, 3) := by decide +kernel
theorem d47_27 : decode prog_9_method_5_code 27 = .ok (.iload_n 2, 1) := by decide +kernel
theorem d47_28 : decode prog_9_method_5_code 28 = .ok (.if_icmp .eq 13, 3) := by decide +kernel
theorem d47_31 : decode prog_9_method_5_code 31 = .ok (.aload_n 0, 1) := by decide +kernel
theorem d47_32 : decode prog_9_method_5_code 32 = .ok (.iload_n 2, 1) := by decide +kernel
theorem d47_33 : decode prog_9_method_5_code 33 = .ok (.invokevirtual 106, 3) := by decide +kernel
theorem d47_36 : decode prog_9_method_5_code 36 = .ok (.bipush 6, 2) := by decide +kernel
theorem d47_38 : decode prog_9_method_5_code 38 = .ok (.if_icmp .lt 6, 3) := by decide +kernel
theorem d47_41 : decode prog_9_method_5_code 41 = .ok (.bipush (-2), 2) := by decide +kernel
theorem d47_43 : decode prog_9_method_5_code 43 = .ok (.ireturn, 1) := by decide +kernel
theorem d47_44 : decode prog_9_method_5_code 44 = .ok (.aload_n 3, 1) := by decide +kernel
theorem d47_45 : decode prog_9_method_5_code 45 = .ok (.iload_n 2, 1) := by decide +kernel
theorem d47_46 : decode prog_9_method_5_code 46 = .ok (.putfield 93, 3) := by decide +kernel
theorem d47_49 : decode prog_9_method_5_code 49 = .ok (.aload_n 0, 1) := by decide +kernel
theorem d47_50 : decode prog_9_method_5_code 50 = .ok (.iload_n 2, 1) := by decide +kernel
theorem d47_51 : decode prog_9_method_5_code 51 = .ok (.invokevirtual 106, 3) := by decide +kernel
theorem d47_54 : decode prog_9_method_5_code 54 = .ok (.ireturn, 1) := by decide +kernel
theorem d48_0 : decode prog_9_method_6_code 0 = .ok (.aload_n 0, 1) := by decide +kernel
theorem d48_1 : decode prog_9_method_6_code 1 = .ok (.iload_n 1, 1) := by decide +kernel
theorem d48_2 : decode prog_9_method_6_code 2 = .ok (.invokevirtual 96, 3) := by decide +kernel
theorem d48_5 : decode prog_9_method_6_code 5 = .ok (.astore_n 2, 1) := by decide +kernel
theorem d48_6 : decode prog_9_method_6_code 6 = .ok (.aload_n 2, 1) := by decide +kernel
theorem d48_7 : decode prog_9_method_6_code 7 = .ok (.ifnonnull 6, 3) := by decide +kernel
theorem d48_10 : decode prog_9_method_6_code 10 = .ok (.bipush (-4), 2) := by decide +kernel
theorem d48_12 : decode prog_9_method_6_code 12 = .ok (.ireturn, 1) := by decide +kernel
theorem d48_13 : decode prog_9_method_6_code 13 = .ok (.aload_n 2, 1) := by decide +kernel
theorem d48_14 : decode prog_9_method_6_code 14 = .ok (.getfield 93, 3) := by decide +kernel
theorem d48_17 : decode prog_9_method_6_code 17 = .ok (.iconst (-1), 1) := by decide +kernel
theorem d48_18 : decode prog_9_method_6_code 18 = .ok (.if_icmp .ne 6, 3) := by decide +kernel
theorem d48_21 : decode prog_9_method_6_code 21 = .ok (.bipush (-2), 2) := by decide +kernel
theorem d48_23 : decode prog_9_method_6_code 23 = .ok (.ireturn, 1) := by decide +kernel
theorem d48_24 : decode prog_9_method_6_code 24 = .ok (.aload_n 2, 1) := by decide +kernel
theorem d48_25 : decode prog_9_method_6_code 25 = .ok (.getfield 93, 3) := by decide +kernel
theorem d48_28 : decode prog_9_method_6_code 28 = .ok (.istore_n 3, 1) := by decide +kernel
theorem d48_29 : decode prog_9_method_6_code 29 = .ok (.aload_n 2, 1) := by decide +kernel
theorem d48_30 : decode prog_9_method_6_code 30 = .ok (.iconst (-1), 1) := by decide +kernel
theorem d48_31 : decode prog_9_method_6_code 31 = .ok (.putfield 93, 3) := by decide +kernel
theorem d48_34 : decode prog_9_method_6_code 34 = .ok (.iload_n 3, 1) := by decide +kernel
theorem d48_35 : decode prog_9_method_6_code 35 = .ok (.ireturn, 1) := by decide +kernel
theorem d49_0 : decode prog_9_method_7_code 0 = .ok (.iload_n 1, 1) := by decide +kernel
theorem d49_1 : decode prog_9_method_7_code 1 = .ok (.invokestatic 66, 3) := by decide +kernel
theorem d49_4 : decode prog_9_method_7_code 4 = .ok (.ifCond .eq 14, 3) := by decide +kernel
theorem d49_7 : decode prog_9_method_7_code 7 = .ok (.iload_n 2, 1) := by decide +kernel
theorem d49_8 : decode prog_9_method_7_code 8 = .ok (.iconst 1, 1) := by decide +kernel
theorem d49_9 : decode prog_9_method_7_code 9 = .ok (.if_icmp .lt 9, 3) := by decide +kernel
theorem d49_12 : decode prog_9_method_7_code 12 = .ok (.iload_n 2, 1) := by decide +kernel
theorem d49_13 : decode prog_9_method_7_code 13 = .ok (.bipush 99, 2) := by decide +kernel
theorem d49_15 : decode prog_9_method_7_code 15 = .ok (.if_icmp .le 5, 3) := by decide +kernel
theorem d49_18 : decode prog_9_method_7_code 18 = .ok (.iconst (-1), 1) := by decide +kernel
theorem d49_19 : decode prog_9_method_7_code 19 = .ok (.ireturn, 1) := by decide +kernel
theorem d49_20 : decode prog_9_method_7_code 20 = .ok (.aload_n 0, 1) := by decide +kernel
theorem d49_21 : decode prog_9_method_7_code 21 = .ok (.getfield 30, 3) := by decide +kernel
theorem d49_24 : decode prog_9_method_7_code 24 = .ok (.iload_n 1, 1) := by decide +kernel
theorem d49_25 : decode prog_9_method_7_code 25 = .ok (.iaload, 1) := by decide +kernel
theorem d49_26 : decode prog_9_method_7_code 26 = .ok (.iload_n 2, 1) := by decide +kernel
theorem d49_27 : decode prog_9_method_7_code 27 = .ok (.iadd, 1) := by decide +kernel
theorem d49_28 : decode prog_9_method_7_code 28 = .ok (.bipush 99, 2) := by decide +kernel
theorem d49_30 : decode prog_9_method_7_code 30 = .ok (.if_icmp .le 6, 3) := by decide +kernel
theorem d49_33 : decode prog_9_method_7_code 33 = .ok (.bipush (-2), 2) := by decide +kernel
theorem d49_35 : decode prog_9_method_7_code 35 = .ok (.ireturn, 1) := by decide +kernel
theorem d49_36 : decode prog_9_method_7_code 36 = .ok (.aload_n 0, 1) := by decide +kernel
theorem d49_37 : decode prog_9_method_7_code 37 = .ok (.getfield 30, 3) := by decide +kernel
theorem d49_40 : decode prog_9_method_7_code 40 = .ok (.iload_n 1, 1) := by decide +kernel
theorem d49_41 : decode prog_9_method_7_code 41 = .ok (.dup2, 1) := by decide +kernel
theorem d49_42 : decode prog_9_method_7_code 42 = .ok (.iaload, 1) := by decide +kernel
theorem d49_43 : decode prog_9_method_7_code 43 = .ok (.iload_n 2, 1) := by decide +kernel
theorem d49_44 : decode prog_9_method_7_code 44 = .ok (.iadd, 1) := by decide +kernel
theorem d49_45 : decode prog_9_method_7_code 45 = .ok (.iastore, 1) := by decide +kernel
theorem d49_46 : decode prog_9_method_7_code 46 = .ok (.aload_n 0, 1) := by decide +kernel
theorem d49_47 : decode prog_9_method_7_code 47 = .ok (.getfield 30, 3) := by decide +kernel
theorem d49_50 : decode prog_9_method_7_code 50 = .ok (.iload_n 1, 1) := by decide +kernel
theorem d49_51 : decode prog_9_method_7_code 51 = .ok (.iaload, 1) := by decide +kernel
theorem d49_52 : decode prog_9_method_7_code 52 = .ok (.ireturn, 1) := by decide +kernel
theorem d50_0 : decode prog_9_method_8_code 0 = .ok (.iload_n 1, 1) := by decide +kernel
theorem d50_1 : decode prog_9_method_8_code 1 = .ok (.invokestatic 103, 3) := by decide +kernel
theorem d50_4 : decode prog_9_method_8_code 4 = .ok (.ifCond .ne 6, 3) := by decide +kernel
theorem d50_7 : decode prog_9_method_8_code 7 = .ok (.bipush (-3), 2) := by decide +kernel
theorem d50_9 : decode prog_9_method_8_code 9 = .ok (.ireturn, 1) := by decide +kernel
theorem d50_10 : decode prog_9_method_8_code 10 = .ok (.iload_n 2, 1) := by decide +kernel
theorem d50_11 : decode prog_9_method_8_code 11 = .ok (.invokestatic 66, 3) := by decide +kernel
theorem d50_14 : decode prog_9_method_8_code 14 = .ok (.ifCond .eq 14, 3) := by decide +kernel
theorem d50_17 : decode prog_9_method_8_code 17 = .ok (.iload_n 3, 1) := by decide +kernel
theorem d50_18 : decode prog_9_method_8_code 18 = .ok (.iconst 1, 1) := by decide +kernel
theorem d50_19 : decode prog_9_method_8_code 19 = .ok (.if_icmp .lt 9, 3) := by decide +kernel
theorem d50_22 : decode prog_9_method_8_code 22 = .ok (.iload_n 3, 1) := by decide +kernel
theorem d50_23 : decode prog_9_method_8_code 23 = .ok (.bipush 10, 2) := by decide +kernel
theorem d50_25 : decode prog_9_method_8_code 25 = .ok (.if_icmp .le 5, 3) := by decide +kernel
theorem d50_28 : decode prog_9_method_8_code 28 = .ok (.iconst (-1), 1) := by decide +kernel
theorem d50_29 : decode prog_9_method_8_code 29 = .ok (.ireturn, 1) := by decide +kernel
theorem d50_30 : decode prog_9_method_8_code 30 = .ok (.aload_n 0, 1) := by decide +kernel
theorem d50_31 : decode prog_9_method_8_code 31 = .ok (.getfield 26, 3) := by decide +kernel
theorem d50_34 : decode prog_9_method_8_code 34 = .ok (.iload_n 1, 1) := by decide +kernel
theorem d50_35 : decode prog_9_method_8_code 35 = .ok (.aaload, 1) := by decide +kernel
theorem d50_36 : decode prog_9_method_8_code 36 = .ok (.astore 4, 2) := by decide +kernel
theorem d50_38 : decode prog_9_method_8_code 38 = .ok (.aload 4, 2) := by decide +kernel
theorem d50_40 : decode prog_9_method_8_code 40 = .ok (.invokevirtual 110, 3) := by decide +kernel
theorem d50_43 : decode prog_9_method_8_code 43 = .ok (.ifCond .eq 15, 3) := by decide +kernel
theorem d50_46 : decode prog_9_method_8_code 46 = .ok (.aload 4, 2) := by decide +kernel
theorem d50_48 : decode prog_9_method_8_code 48 = .ok (.invokevirtual 114, 3) := by decide +kernel
theorem d50_51 : decode prog_9_method_8_code 51 = .ok (.iload_n 3, 1) := by decide +kernel
theorem d50_52 : decode prog_9_method_8_code 52 = .ok (.iadd, 1) := by decide +kernel
theorem d50_53 : decode prog_9_method_8_code 53 = .ok (.bipush 10, 2) := by decide +kernel
theorem d50_55 : decode prog_9_method_8_code 55 = .ok (.if_icmp .le 6, 3) := by decide +kernel
theorem d50_58 : decode prog_9_method_8_code 58 = .ok (.bipush (-2), 2) := by decide +kernel
theorem d50_60 : decode prog_9_method_8_code 60 = .ok (.ireturn, 1) := by decide +kernel
theorem d50_61 : decode prog_9_method_8_code 61 = .ok (.aload_n 0, 1) := by decide +kernel
theorem d50_62 : decode prog_9_method_8_code 62 = .ok (.getfield 30, 3) := by decide +kernel
theorem d50_65 : decode prog_9_method_8_code 65 = .ok (.iload_n 2, 1) := by decide +kernel
theorem d50_66 : decode prog_9_method_8_code 66 = .ok (.iaload, 1) := by decide +kernel
theorem d50_67 : decode prog_9_method_8_code 67 = .ok (.iload_n 3, 1) := by decide +kernel
theorem d50_68 : decode prog_9_method_8_code 68 = .ok (.if_icmp .ge 6, 3) := by decide +kernel
theorem d50_71 : decode prog_9_method_8_code 71 = .ok (.bipush (-5), 2) := by decide +kernel
theorem d50_73 : decode prog_9_method_8_code 73 = .ok (.ireturn, 1) := by decide +kernel
theorem d50_74 : decode prog_9_method_8_code 74 = .ok (.aload_n 0, 1) := by decide +kernel
theorem d50_75 : decode prog_9_method_8_code 75 = .ok (.getfield 30, 3) := by decide +kernel
theorem d50_78 : decode prog_9_method_8_code 78 = .ok (.iload_n 2, 1) := by decide +kernel
theorem d50_79 : decode prog_9_method_8_code 79 = .ok (.dup2, 1) := by decide +kernel
theorem d50_80 : decode prog_9_method_8_code 80 = .ok (.iaload, 1) := by decide +kernel
theorem d50_81 : decode prog_9_method_8_code 81 = .ok (.iload_n 3, 1) := by decide +kernel
theorem d50_82 : decode prog_9_method_8_code 82 = .ok (.isub, 1) := by decide +kernel
theorem d50_83 : decode prog_9_method_8_code 83 = .ok (.iastore, 1) := by decide +kernel
theorem d50_84 : decode prog_9_method_8_code 84 = .ok (.aload 4, 2) := by decide +kernel
theorem d50_86 : decode prog_9_method_8_code 86 = .ok (.getfield 118, 3) := by decide +kernel
theorem d50_89 : decode prog_9_method_8_code 89 = .ok (.iload_n 2, 1) := by decide +kernel
theorem d50_90 : decode prog_9_method_8_code 90 = .ok (.dup2, 1) := by decide +kernel
theorem d50_91 : decode prog_9_method_8_code 91 = .ok (.iaload, 1) := by decide +kernel
theorem d50_92 : decode prog_9_method_8_code 92 = .ok (.iload_n 3, 1) := by decide +kernel
theorem d50_93 : decode prog_9_method_8_code 93 = .ok (.iadd, 1) := by decide +kernel
theorem d50_94 : decode prog_9_method_8_code 94 = .ok (.iastore, 1) := by decide +kernel
theorem d50_95 : decode prog_9_method_8_code 95 = .ok (.aload 4, 2) := by decide +kernel
theorem d50_97 : decode prog_9_method_8_code 97 = .ok (.invokevirtual 114, 3) := by decide +kernel
theorem d50_100 : decode prog_9_method_8_code 100 = .ok (.ireturn, 1) := by decide +kernel
theorem d51_0 : decode prog_9_method_9_code 0 = .ok (.iload_n 1, 1) := by decide +kernel
theorem d51_1 : decode prog_9_method_9_code 1 = .ok (.invokestatic 103, 3) := by decide +kernel
theorem d51_4 : decode prog_9_method_9_code 4 = .ok (.ifCond .eq 10, 3) := by decide +kernel
theorem d51_7 : decode prog_9_method_9_code 7 = .ok (.iload_n 2, 1) := by decide +kernel
theorem d51_8 : decode prog_9_method_9_code 8 = .ok (.invokestatic 69, 3) := by decide +kernel
theorem d51_11 : decode prog_9_method_9_code 11 = .ok (.ifCond .ne 6, 3) := by decide +kernel
theorem d51_14 : decode prog_9_method_9_code 14 = .ok (.bipush (-3), 2) := by decide +kernel
theorem d51_16 : decode prog_9_method_9_code 16 = .ok (.ireturn, 1) := by decide +kernel
theorem d51_17 : decode prog_9_method_9_code 17 = .ok (.aload_n 0, 1) := by decide +kernel
theorem d51_18 : decode prog_9_method_9_code 18 = .ok (.getfield 26, 3) := by decide +kernel
theorem d51_21 : decode prog_9_method_9_code 21 = .ok (.iload_n 1, 1) := by decide +kernel
theorem d51_22 : decode prog_9_method_9_code 22 = .ok (.aaload, 1) := by decide +kernel
theorem d51_23 : decode prog_9_method_9_code 23 = .ok (.invokevirtual 110, 3) := by decide +kernel
theorem d51_26 : decode prog_9_method_9_code 26 = .ok (.ifCond .eq 13, 3) := by decide +kernel
theorem d51_29 : decode prog_9_method_9_code 29 = .ok (.aload_n 0, 1) := by decide +kernel
theorem d51_30 : decode prog_9_method_9_code 30 = .ok (.getfield 34, 3) := by decide +kernel
theorem d51_33 : decode prog_9_method_9_code 33 = .ok (.iload_n 2, 1) := by decide +kernel
theorem d51_34 : decode prog_9_method_9_code 34 = .ok (.iaload, 1) := by decide +kernel
theorem d51_35 : decode prog_9_method_9_code 35 = .ok (.iconst (-1), 1) := by decide +kernel
theorem d51_36 : decode prog_9_method_9_code 36 = .ok (.if_icmp .eq 6, 3) := by decide +kernel
theorem d51_39 : decode prog_9_method_9_code 39 = .ok (.bipush (-2), 2) := by decide +kernel
theorem d51_41 : decode prog_9_method_9_code 41 = .ok (.ireturn, 1) := by decide +kernel
theorem d51_42 : decode prog_9_method_9_code 42 = .ok (.aload_n 0, 1) := by decide +kernel
theorem d51_43 : decode prog_9_method_9_code 43 = .ok (.getfield 34, 3) := by decide +kernel
theorem d51_46 : decode prog_9_method_9_code 46 = .ok (.iload_n 2, 1) := by decide +kernel
theorem d51_47 : decode prog_9_method_9_code 47 = .ok (.iload_n 1, 1) := by decide +kernel
theorem d51_48 : decode prog_9_method_9_code 48 = .ok (.iastore, 1) := by decide +kernel
theorem d51_49 : decode prog_9_method_9_code 49 = .ok (.aload_n 0, 1) := by decide +kernel
theorem d51_50 : decode prog_9_method_9_code 50 = .ok (.iload_n 1, 1) := by decide +kernel
theorem d51_51 : decode prog_9_method_9_code 51 = .ok (.invokevirtual 121, 3) := by decide +kernel
theorem d51_54 : decode prog_9_method_9_code 54 = .ok (.ireturn, 1) := by decide +kernel
theorem d52_0 : decode prog_9_method_19_code 0 = .ok (.iconst 0, 1) := by decide +kernel
theorem d52_1 : decode prog_9_method_19_code 1 = .ok (.istore_n 2, 1) := by decide +kernel
theorem d52_2 : decode prog_9_method_19_code 2 = .ok (.aload_n 0, 1) := by decide +kernel
theorem d52_3 : decode prog_9_method_19_code 3 = .ok (.getfield 34, 3) := by decide +kernel
theorem d52_6 : decode prog_9_method_19_code 6 = .ok (.astore_n 3, 1) := by decide +kernel
theorem d52_7 : decode prog_9_method_19_code 7 = .ok (.aload_n 3, 1) := by decide +kernel
theorem d52_8 : decode prog_9_method_19_code 8 = .ok (.arraylength, 1) := by decide +kernel
theorem d52_9 : decode prog_9_method_19_code 9 = .ok (.istore 4, 2) := by decide +kernel
theorem d52_11 : decode prog_9_method_19_code 11 = .ok (.iconst 0, 1) := by decide +kernel
theorem d52_12 : decode prog_9_method_19_code 12 = .ok (.istore 5, 2) := by decide +kernel
theorem d52_14 : decode prog_9_method_19_code 14 = .ok (.iload 5, 2) := by decide +kernel
theorem d52_16 : decode prog_9_method_19_code 16 = .ok (.iload 4, 2) := by decide +kernel
theorem d52_18 : decode prog_9_method_19_code 18 = .ok (.if_icmp .ge 24, 3) := by decide +kernel
theorem d52_21 : decode prog_9_method_19_code 21 = .ok (.aload_n 3, 1) := by decide +kernel
theorem d52_22 : decode prog_9_method_19_code 22 = .ok (.iload 5, 2) := by decide +kernel
theorem d52_24 : decode prog_9_method_19_code 24 = .ok (.iaload, 1) := by decide +kernel
theorem d52_25 : decode prog_9_method_19_code 25 = .ok (.istore 6, 2) := by decide +kernel
theorem d52_27 : decode prog_9_method_19_code 27 = .ok (.iload 6, 2) := by decide +kernel
theorem d52_29 : decode prog_9_method_19_code 29 = .ok (.iload_n 1, 1) := by decide +kernel
theorem d52_30 : decode prog_9_method_19_code 30 = .ok (.if_icmp .ne 6, 3) := by decide +kernel
theorem d52_33 : decode prog_9_method_19_code 33 = .ok (.iinc 2 1, 3) := by decide +kernel
theorem d52_36 : decode prog_9_method_19_code 36 = .ok (.iinc 5 1, 3) := by decide +kernel
theorem d52_39 : decode prog_9_method_19_code 39 = .ok (.goto (-25), 3) := by decide +kernel
theorem d52_42 : decode prog_9_method_19_code 42 = .ok (.iload_n 2, 1) := by decide +kernel
theorem d52_43 : decode prog_9_method_19_code 43 = .ok (.ireturn, 1) := by decide +kernel
theorem d53_0 : decode prog_9_method_10_code 0 = .ok (.iload_n 1, 1) := by decide +kernel
theorem d53_1 : decode prog_9_method_10_code 1 = .ok (.invokestatic 103, 3) := by decide +kernel
theorem d53_4 : decode prog_9_method_10_code 4 = .ok (.ifCond .eq 10, 3) := by decide +kernel
theorem d53_7 : decode prog_9_method_10_code 7 = .ok (.iload_n 2, 1) := by decide +kernel
theorem d53_8 : decode prog_9_method_10_code 8 = .ok (.invokestatic 69, 3) := by decide +kernel
theorem d53_11 : decode prog_9_method_10_code 11 = .ok (.ifCond .ne 6, 3) := by decide +kernel
theorem d53_14 : decode prog_9_method_10_code 14 = .ok (.bipush (-3), 2) := by decide +kernel
theorem d53_16 : decode prog_9_method_10_code 16 = .ok (.ireturn, 1) := by decide +kernel
theorem d53_17 : decode prog_9_method_10_code 17 = .ok (.aload_n 0, 1) := by decide +kernel
theorem d53_18 : decode prog_9_method_10_code 18 = .ok (.getfield 26, 3) := by decide +kernel
theorem d53_21 : decode prog_9_method_10_code 21 = .ok (.iload_n 1, 1) := by decide +kernel
theorem d53_22 : decode prog_9_method_10_code 22 = .ok (.aaload, 1) := by decide +kernel
theorem d53_23 : decode prog_9_method_10_code 23 = .ok (.invokevirtual 110, 3) := by decide +kernel
theorem d53_26 : decode prog_9_method_10_code 26 = .ok (.ifCond .eq 13, 3) := by decide +kernel
theorem d53_29 : decode prog_9_method_10_code 29 = .ok (.aload_n 0, 1) := by decide +kernel
theorem d53_30 : decode prog_9_method_10_code 30 = .ok (.getfield 34, 3) := by decide +kernel
theorem d53_33 : decode prog_9_method_10_code 33 = .ok (.iload_n 2, 1) := by decide +kernel
theorem d53_34 : decode prog_9_method_10_code 34 = .ok (.iaload, 1) := by decide +kernel
theorem d53_35 : decode prog_9_method_10_code 35 = .ok (.iload_n 1, 1) := by decide +kernel
theorem d53_36 : decode prog_9_method_10_code 36 = .ok (.if_icmp .eq 6, 3) := by decide +kernel
theorem d53_39 : decode prog_9_method_10_code 39 = .ok (.bipush (-2), 2) := by decide +kernel
theorem d53_41 : decode prog_9_method_10_code 41 = .ok (.ireturn, 1) := by decide +kernel
theorem d53_42 : decode prog_9_method_10_code 42 = .ok (.aload_n 0, 1) := by decide +kernel
theorem d53_43 : decode prog_9_method_10_code 43 = .ok (.getfield 34, 3) := by decide +kernel
theorem d53_46 : decode prog_9_method_10_code 46 = .ok (.iload_n 2, 1) := by decide +kernel
theorem d53_47 : decode prog_9_method_10_code 47 = .ok (.iconst (-1), 1) := by decide +kernel
theorem d53_48 : decode prog_9_method_10_code 48 = .ok (.iastore, 1) := by decide +kernel
theorem d53_49 : decode prog_9_method_10_code 49 = .ok (.aload_n 0, 1) := by decide +kernel
theorem d53_50 : decode prog_9_method_10_code 50 = .ok (.iload_n 1, 1) := by decide +kernel
theorem d53_51 : decode prog_9_method_10_code 51 = .ok (.invokevirtual 121, 3) := by decide +kernel
theorem d53_54 : decode prog_9_method_10_code 54 = .ok (.ireturn, 1) := by decide +kernel
theorem d54_0 : decode prog_9_method_11_code 0 = .ok (.iload_n 1, 1) := by decide +kernel
theorem d54_1 : decode prog_9_method_11_code 1 = .ok (.invokestatic 103, 3) := by decide +kernel
theorem d54_4 : decode prog_9_method_11_code 4 = .ok (.ifCond .ne 6, 3) := by decide +kernel
theorem d54_7 : decode prog_9_method_11_code 7 = .ok (.bipush (-3), 2) := by decide +kernel
theorem d54_9 : decode prog_9_method_11_code 9 = .ok (.ireturn, 1) := by decide +kernel
theorem d54_10 : decode prog_9_method_11_code 10 = .ok (.aload_n 0, 1) := by decide +kernel
theorem d54_11 : decode prog_9_method_11_code 11 = .ok (.iload_n 2, 1) := by decide +kernel
theorem d54_12 : decode prog_9_method_11_code 12 = .ok (.invokevirtual 96, 3) := by decide +kernel
theorem d54_15 : decode prog_9_method_11_code 15 = .ok (.astore_n 3, 1) := by decide +kernel
theorem d54_16 : decode prog_9_method_11_code 16 = .ok (.aload_n 3, 1) := by decide +kernel
theorem d54_17 : decode prog_9_method_11_code 17 = .ok (.ifnonnull 6, 3) := by decide +kernel
theorem d54_20 : decode prog_9_method_11_code 20 = .ok (.bipush (-4), 2) := by decide +kernel
theorem d54_22 : decode prog_9_method_11_code 22 = .ok (.ireturn, 1) := by decide +kernel
theorem d54_23 : decode prog_9_method_11_code 23 = .ok (.aload_n 0, 1) := by decide +kernel
theorem d54_24 : decode prog_9_method_11_code 24 = .ok (.iload_n 1, 1) := by decide +kernel
theorem d54_25 : decode prog_9_method_11_code 25 = .ok (.aload_n 3, 1) := by decide +kernel
theorem d54_26 : decode prog_9_method_11_code 26 = .ok (.invokevirtual 124, 3) := by decide +kernel
theorem d54_29 : decode prog_9_method_11_code 29 = .ok (.ifCond .ne 6, 3) := by decide +kernel
theorem d54_32 : decode prog_9_method_11_code 32 = .ok (.bipush (-2), 2) := by decide +kernel
theorem d54_34 : decode prog_9_method_11_code 34 = .ok (.ireturn, 1) := by decide +kernel
theorem d54_35 : decode prog_9_method_11_code 35 = .ok (.aload_n 0, 1) := by decide +kernel
theorem d54_36 : decode prog_9_method_11_code 36 = .ok (.iload_n 1, 1) := by decide +kernel
theorem d54_37 : decode prog_9_method_11_code 37 = .ok (.aload_n 3, 1) := by decide +kernel
theorem d54_38 : decode prog_9_method_11_code 38 = .ok (.invokevirtual 128, 3) := by decide +kernel
theorem d54_41 : decode prog_9_method_11_code 41 = .ok (.ifCond .ne 6, 3) := by decide +kernel
theorem d54_44 : decode prog_9_method_11_code 44 = .ok (.bipush (-5), 2) := by decide +kernel
theorem d54_46 : decode prog_9_method_11_code 46 = .ok (.ireturn, 1) := by decide +kernel
theorem d54_47 : decode prog_9_method_11_code 47 = .ok (.aload_n 0, 1) := by decide +kernel
theorem d54_48 : decode prog_9_method_11_code 48 = .ok (.getfield 26, 3) := by decide +kernel
theorem d54_51 : decode prog_9_method_11_code 51 = .ok (.iload_n 1, 1) := by decide +kernel
theorem d54_52 : decode prog_9_method_11_code 52 = .ok (.aaload, 1) := by decide +kernel
theorem d54_53 : decode prog_9_method_11_code 53 = .ok (.astore 4, 2) := by decide +kernel
theorem d54_55 : decode prog_9_method_11_code 55 = .ok (.aload 4, 2) := by decide +kernel
theorem d54_57 : decode prog_9_method_11_code 57 = .ok (.aload_n 3, 1) := by decide +kernel
theorem d54_58 : decode prog_9_method_11_code 58 = .ok (.invokevirtual 131, 3) := by decide +kernel
theorem d54_61 : decode prog_9_method_11_code 61 = .ok (.istore 5, 2) := by decide +kernel
theorem d54_63 : decode prog_9_method_11_code 63 = .ok (.aload_n 3, 1) := by decide +kernel
theorem d54_64 : decode prog_9_method_11_code 64 = .ok (.iload 5, 2) := by decide +kernel
theorem d54_66 : decode prog_9_method_11_code 66 = .ok (.invokevirtual 135, 3) := by decide +kernel
theorem d54_69 : decode prog_9_method_11_code 69 = .ok (.istore 6, 2) := by decide +kernel
theorem d54_71 : decode prog_9_method_11_code 71 = .ok (.aload 4, 2) := by decide +kernel
theorem d54_73 : decode prog_9_method_11_code 73 = .ok (.iload 5, 2) := by decide +kernel
theorem d54_75 : decode prog_9_method_11_code 75 = .ok (.putfield 138, 3) := by decide +kernel
theorem d54_78 : decode prog_9_method_11_code 78 = .ok (.aload 4, 2) := by decide +kernel
theorem d54_80 : decode prog_9_method_11_code 80 = .ok (.aload_n 3, 1) := by decide +kernel
theorem d54_81 : decode prog_9_method_11_code 81 = .ok (.getfield 75, 3) := by decide +kernel
theorem d54_84 : decode prog_9_method_11_code 84 = .ok (.putfield 141, 3) := by decide +kernel
theorem d54_87 : decode prog_9_method_11_code 87 = .ok (.aload 4, 2) := by decide +kernel
theorem d54_89 : decode prog_9_method_11_code 89 = .ok (.aload_n 3, 1) := by decide +kernel
theorem d54_90 : decode prog_9_method_11_code 90 = .ok (.getfield 78, 3) := by decide +kernel
theorem d54_93 : decode prog_9_method_11_code 93 = .ok (.putfield 142, 3) := by decide +kernel
theorem d54_96 : decode prog_9_method_11_code 96 = .ok (.aload 4, 2) := by decide +kernel
theorem d54_98 : decode prog_9_method_11_code 98 = .ok (.aload_n 3, 1) := by decide +kernel
theorem d54_99 : decode prog_9_method_11_code 99 = .ok (.getfield 81, 3) := by decide +kernel
theorem d54_102 : decode prog_9_method_11_code 102 = .ok (.invokevirtual 143, 3) := by decide +kernel
theorem d54_105 : decode prog_9_method_11_code 105 = .ok (.aload 4, 2) := by decide +kernel
theorem d54_107 : decode prog_9_method_11_code 107 = .ok (.dup, 1) := by decide +kernel
theorem d54_108 : decode prog_9_method_11_code 108 = .ok (.getfield 147, 3) := by decide +kernel
theorem d54_111 : decode prog_9_method_11_code 111 = .ok (.bipush 10, 2) := by decide +kernel
theorem d54_113 : decode prog_9_method_11_code 113 = .ok (.aload_n 3, 1) := by decide +kernel
theorem d54_114 : decode prog_9_method_11_code 114 = .ok (.getfield 87, 3) := by decide +kernel
theorem d54_117 : decode prog_9_method_11_code 117 = .ok (.imul, 1) := by decide +kernel
theorem d54_118 : decode prog_9_method_11_code 118 = .ok (.iconst 2, 1) := by decide +kernel
theorem d54_119 : decode prog_9_method_11_code 119 = .ok (.iload 6, 2) := by decide +kernel
theorem d54_121 : decode prog_9_method_11_code 121 = .ok (.imul, 1) := by decide +kernel
theorem d54_122 : decode prog_9_method_11_code 122 = .ok (.isub, 1) := by decide +kernel
theorem d54_123 : decode prog_9_method_11_code 123 = .ok (.iadd, 1) := by decide +kernel
theorem d54_124 : decode prog_9_method_11_code 124 = .ok (.putfield 147, 3) := by decide +kernel
theorem d54_127 : decode prog_9_method_11_code 127 = .ok (.aload_n 0, 1) := by decide +kernel
theorem d54_128 : decode prog_9_method_11_code 128 = .ok (.dup, 1) := by decide +kernel
theorem d54_129 : decode prog_9_method_11_code 129 = .ok (.getfield 40, 3) := by decide +kernel
theorem d54_132 : decode prog_9_method_11_code 132 = .ok (.aload_n 3, 1) := by decide +kernel
theorem d54_133 : decode prog_9_method_11_code 133 = .ok (.getfield 87, 3) := by decide +kernel
theorem d54_136 : decode prog_9_method_11_code 136 = .ok (.i2l, 1) := by decide +kernel
theorem d54_137 : decode prog_9_method_11_code 137 = .ok (.ladd, 1) := by decide +kernel
theorem d54_138 : decode prog_9_method_11_code 138 = .ok (.putfield 40, 3) := by decide +kernel
theorem d54_141 : decode prog_9_method_11_code 141 = .ok (.aload_n 0, 1) := by decide +kernel
theorem d54_142 : decode prog_9_method_11_code 142 = .ok (.dup, 1) := by decide +kernel
theorem d54_143 : decode prog_9_method_11_code 143 = .ok (.getfield 44, 3) := by decide +kernel
theorem d54_146 : decode prog_9_method_11_code 146 = .ok (.iload 6, 2) := by decide +kernel
theorem d54_148 : decode prog_9_method_11_code 148 = .ok (.i2l, 1) := by decide +kernel
theorem d54_149 : decode prog_9_method_11_code 149 = .ok (.ladd, 1) := by decide +kernel
theorem d54_150 : decode prog_9_method_11_code 150 = .ok (.putfield 44, 3) := by decide +kernel
theorem d54_153 : decode prog_9_method_11_code 153 = .ok (.aload_n 0, 1) := by decide +kernel
theorem d54_154 : decode prog_9_method_11_code 154 = .ok (.dup, 1) := by decide +kernel
theorem d54_155 : decode prog_9_method_11_code 155 = .ok (.getfield 37, 3) := by decide +kernel
theorem d54_158 : decode prog_9_method_11_code 158 = .ok (.iconst 1, 1) := by decide +kernel
theorem d54_159 : decode prog_9_method_11_code 159 = .ok (.iadd, 1) := by decide +kernel
theorem d54_160 : decode prog_9_method_11_code 160 = .ok (.putfield 37, 3) := by decide +kernel
theorem d54_163 : decode prog_9_method_11_code 163 = .ok (.aload_n 0, 1) := by decide +kernel
theorem d54_164 : decode prog_9_method_11_code 164 = .ok (.aload_n 3, 1) := by decide +kernel
theorem d54_165 : decode prog_9_method_11_code 165 = .ok (.invokevirtual 100, 3) := by decide +kernel
theorem d54_168 : decode prog_9_method_11_code 168 = .ok (.iconst 2, 1) := by decide +kernel
theorem d54_169 : decode prog_9_method_11_code 169 = .ok (.iload 6, 2) := by decide +kernel
theorem d54_171 : decode prog_9_method_11_code 171 = .ok (.imul, 1) := by decide +kernel
theorem d54_172 : decode prog_9_method_11_code 172 = .ok (.ireturn, 1) := by decide +kernel
theorem d55_0 : decode prog_9_method_20_code 0 = .ok (.aload_n 2, 1) := by decide +kernel
theorem d55_1 : decode prog_9_method_20_code 1 = .ok (.getfield 84, 3) := by decide +kernel
theorem d55_4 : decode prog_9_method_20_code 4 = .ok (.invokestatic 69, 3) := by decide +kernel
theorem d55_7 : decode prog_9_method_20_code 7 = .ok (.ifCond .eq 20, 3) := by decide +kernel
theorem d55_10 : decode prog_9_method_20_code 10 = .ok (.aload_n 0, 1) := by decide +kernel
theorem d55_11 : decode prog_9_method_20_code 11 = .ok (.getfield 34, 3) := by decide +kernel
theorem d55_14 : decode prog_9_method_20_code 14 = .ok (.aload_n 2, 1) := by decide +kernel
theorem d55_15 : decode prog_9_method_20_code 15 = .ok (.getfield 84, 3) := by decide +kernel
theorem d55_18 : decode prog_9_method_20_code 18 = .ok (.iaload, 1) := by decide +kernel
theorem d55_19 : decode prog_9_method_20_code 19 = .ok (.iload_n 1, 1) := by decide +kernel
theorem d55_20 : decode prog_9_method_20_code 20 = .ok (.if_icmp .ne 7, 3) := by decide +kernel
theorem d55_23 : decode prog_9_method_20_code 23 = .ok (.iconst 1, 1) := by decide +kernel
theorem d55_24 : decode prog_9_method_20_code 24 = .ok (.goto 4, 3) := by decide +kernel
theorem d55_27 : decode prog_9_method_20_code 27 = .ok (.iconst 0, 1) := by decide +kernel
theorem d55_28 : decode prog_9_method_20_code 28 = .ok (.ireturn, 1) := by decide +kernel
theorem d56_0 : decode prog_9_method_21_code 0 = .ok (.iload_n 1, 1) := by decide +kernel
theorem d56_1 : decode prog_9_method_21_code 1 = .ok (.invokestatic 103, 3) := by decide +kernel
theorem d56_4 : decode prog_9_method_21_code 4 = .ok (.ifCond .eq 34, 3) := by decide +kernel
theorem d56_7 : decode prog_9_method_21_code 7 = .ok (.aload_n 2, 1) := by decide +kernel
theorem d56_8 : decode prog_9_method_21_code 8 = .ok (.getfield 81, 3) := by decide +kernel
theorem d56_11 : decode prog_9_method_21_code 11 = .ok (.invokestatic 66, 3) := by decide +kernel
theorem d56_14 : decode prog_9_method_21_code 14 = .ok (.ifCond .eq 24, 3) := by decide +kernel
theorem d56_17 : decode prog_9_method_21_code 17 = .ok (.aload_n 0, 1) := by decide +kernel
theorem d56_18 : decode prog_9_method_21_code 18 = .ok (.getfield 26, 3) := by decide +kernel
theorem d56_21 : decode prog_9_method_21_code 21 = .ok (.iload_n 1, 1) := by decide +kernel
theorem d56_22 : decode prog_9_method_21_code 22 = .ok (.aaload, 1) := by decide +kernel
theorem d56_23 : decode prog_9_method_21_code 23 = .ok (.getfield 118, 3) := by decide +kernel
theorem d56_26 : decode prog_9_method_21_code 26 = .ok (.aload_n 2, 1) := by decide +kernel
theorem d56_27 : decode prog_9_method_21_code 27 = .ok (.getfield 81, 3) := by decide +kernel
theorem d56_30 : decode prog_9_method_21_code 30 = .ok (.iaload, 1) := by decide +kernel
theorem d56_31 : decode prog_9_method_21_code 31 = .ok (.ifCond .le 7, 3) := by decide +kernel
theorem d56_34 : decode prog_9_method_21_code 34 = .ok (.iconst 1, 1) := by decide +kernel
theorem d56_35 : decode prog_9_method_21_code 35 = .ok (.goto 4, 3) := by decide +kernel
theorem d56_38 : decode prog_9_method_21_code 38 = .ok (.iconst 0, 1) := by decide +kernel
theorem d56_39 : decode prog_9_method_21_code 39 = .ok (.ireturn, 1) := by decide +kernel
theorem d57_0 : decode prog_9_method_12_code 0 = .ok (.iload_n 1, 1) := by decide +kernel
theorem d57_1 : decode prog_9_method_12_code 1 = .ok (.invokestatic 103, 3) := by decide +kernel
theorem d57_4 : decode prog_9_method_12_code 4 = .ok (.ifCond .ne 6, 3) := by decide +kernel
theorem d57_7 : decode prog_9_method_12_code 7 = .ok (.bipush (-3), 2) := by decide +kernel
theorem d57_9 : decode prog_9_method_12_code 9 = .ok (.ireturn, 1) := by decide +kernel
theorem d57_10 : decode prog_9_method_12_code 10 = .ok (.aload_n 0, 1) := by decide +kernel
theorem d57_11 : decode prog_9_method_12_code 11 = .ok (.getfield 26, 3) := by decide +kernel
theorem d57_14 : decode prog_9_method_12_code 14 = .ok (.iload_n 1, 1) := by decide +kernel
theorem d57_15 : decode prog_9_method_12_code 15 = .ok (.aaload, 1) := by decide +kernel
theorem d57_16 : decode prog_9_method_12_code 16 = .ok (.astore_n 2, 1) := by decide +kernel
theorem d57_17 : decode prog_9_method_12_code 17 = .ok (.aload_n 2, 1) := by decide +kernel
theorem d57_18 : decode prog_9_method_12_code 18 = .ok (.dup, 1) := by decide +kernel
theorem d57_19 : decode prog_9_method_12_code 19 = .ok (.getfield 138, 3) := by decide +kernel
theorem d57_22 : decode prog_9_method_12_code 22 = .ok (.aload_n 2, 1) := by decide +kernel
theorem d57_23 : decode prog_9_method_12_code 23 = .ok (.getfield 141, 3) := by decide +kernel
theorem d57_26 : decode prog_9_method_12_code 26 = .ok (.aload_n 2, 1) := by decide +kernel
theorem d57_27 : decode prog_9_method_12_code 27 = .ok (.getfield 142, 3) := by decide +kernel
theorem d57_30 : decode prog_9_method_12_code 30 = .ok (.iconst 0, 1) := by decide +kernel
theorem d57_31 : decode prog_9_method_12_code 31 = .ok (.iconst 0, 1) := by decide +kernel
theorem d57_32 : decode prog_9_method_12_code 32 = .ok (.invokestatic 150, 3) := by decide +kernel
theorem d57_35 : decode prog_9_method_12_code 35 = .ok (.iadd, 1) := by decide +kernel
theorem d57_36 : decode prog_9_method_12_code 36 = .ok (.putfield 138, 3) := by decide +kernel
theorem d57_39 : decode prog_9_method_12_code 39 = .ok (.aload_n 2, 1) := by decide +kernel
theorem d57_40 : decode prog_9_method_12_code 40 = .ok (.iconst 0, 1) := by decide +kernel
theorem d57_41 : decode prog_9_method_12_code 41 = .ok (.putfield 141, 3) := by decide +kernel
theorem d57_44 : decode prog_9_method_12_code 44 = .ok (.aload_n 2, 1) := by decide +kernel
theorem d57_45 : decode prog_9_method_12_code 45 = .ok (.iconst 0, 1) := by decide +kernel
theorem d57_46 : decode prog_9_method_12_code 46 = .ok (.putfield 142, 3) := by decide +kernel
theorem d57_49 : decode prog_9_method_12_code 49 = .ok (.aload_n 2, 1) := by decide +kernel
theorem d57_50 : decode prog_9_method_12_code 50 = .ok (.getfield 138, 3) := by decide +kernel
theorem d57_53 : decode prog_9_method_12_code 53 = .ok (.ireturn, 1) := by decide +kernel
theorem d58_0 : decode prog_9_method_13_code 0 = .ok (.iload_n 1, 1) := by decide +kernel
theorem d58_1 : decode prog_9_method_13_code 1 = .ok (.invokestatic 103, 3) := by decide +kernel
theorem d58_4 : decode prog_9_method_13_code 4 = .ok (.ifCond .ne 6, 3) := by decide +kernel
theorem d58_7 : decode prog_9_method_13_code 7 = .ok (.bipush (-3), 2) := by decide +kernel
theorem d58_9 : decode prog_9_method_13_code 9 = .ok (.ireturn, 1) := by decide +kernel
theorem d58_10 : decode prog_9_method_13_code 10 = .ok (.iload_n 2, 1) := by decide +kernel
theorem d58_11 : decode prog_9_method_13_code 11 = .ok (.iconst 1, 1) := by decide +kernel
theorem d58_12 : decode prog_9_method_13_code 12 = .ok (.if_icmp .lt 9, 3) := by decide +kernel
theorem d58_15 : decode prog_9_method_13_code 15 = .ok (.iload_n 2, 1) := by decide +kernel
theorem d58_16 : decode prog_9_method_13_code 16 = .ok (.bipush 99, 2) := by decide +kernel
theorem d58_18 : decode prog_9_method_13_code 18 = .ok (.if_icmp .le 5, 3) := by decide +kernel
theorem d58_21 : decode prog_9_method_13_code 21 = .ok (.iconst (-1), 1) := by decide +kernel
theorem d58_22 : decode prog_9_method_13_code 22 = .ok (.ireturn, 1) := by decide +kernel
theorem d58_23 : decode prog_9_method_13_code 23 = .ok (.aload_n 0, 1) := by decide +kernel
theorem d58_24 : decode prog_9_method_13_code 24 = .ok (.getfield 26, 3) := by decide +kernel
theorem d58_27 : decode prog_9_method_13_code 27 = .ok (.iload_n 1, 1) := by decide +kernel
theorem d58_28 : decode prog_9_method_13_code 28 = .ok (.aaload, 1) := by decide +kernel
theorem d58_29 : decode prog_9_method_13_code 29 = .ok (.dup, 1) := by decide +kernel
theorem d58_30 : decode prog_9_method_13_code 30 = .ok (.getfield 138, 3) := by decide +kernel
theorem d58_33 : decode prog_9_method_13_code 33 = .ok (.iload_n 2, 1) := by decide +kernel
theorem d58_34 : decode prog_9_method_13_code 34 = .ok (.iadd, 1) := by decide +kernel
theorem d58_35 : decode prog_9_method_13_code 35 = .ok (.putfield 138, 3) := by decide +kernel
theorem d58_38 : decode prog_9_method_13_code 38 = .ok (.aload_n 0, 1) := by decide +kernel
theorem d58_39 : decode prog_9_method_13_code 39 = .ok (.getfield 26, 3) := by decide +kernel
theorem d58_42 : decode prog_9_method_13_code 42 = .ok (.iload_n 1, 1) := by decide +kernel
theorem d58_43 : decode prog_9_method_13_code 43 = .ok (.aaload, 1) := by decide +kernel
theorem d58_44 : decode prog_9_method_13_code 44 = .ok (.getfield 138, 3) := by decide +kernel
theorem d58_47 : decode prog_9_method_13_code 47 = .ok (.ireturn, 1) := by decide +kernel
theorem d59_0 : decode prog_9_method_16_code 0 = .ok (.iconst 0, 1) := by decide +kernel
theorem d59_1 : decode prog_9_method_16_code 1 = .ok (.istore_n 2, 1) := by decide +kernel
theorem d59_2 : decode prog_9_method_16_code 2 = .ok (.iconst 0, 1) := by decide +kernel
theorem d59_3 : decode prog_9_method_16_code 3 = .ok (.istore_n 3, 1) := by decide +kernel
theorem d59_4 : decode prog_9_method_16_code 4 = .ok (.iload_n 3, 1) := by decide +kernel
theorem d59_5 : decode prog_9_method_16_code 5 = .ok (.aload_n 0, 1) := by decide +kernel
theorem d59_6 : decode prog_9_method_16_code 6 = .ok (.getfield 17, 3) := by decide +kernel
theorem d59_9 : decode prog_9_method_16_code 9 = .ok (.if_icmp .ge 25, 3) := by decide +kernel
theorem d59_12 : decode prog_9_method_16_code 12 = .ok (.aload_n 0, 1) := by decide +kernel
theorem d59_13 : decode prog_9_method_16_code 13 = .ok (.getfield 11, 3) := by decide +kernel
theorem d59_16 : decode prog_9_method_16_code 16 = .ok (.iload_n 3, 1) := by decide +kernel
theorem d59_17 : decode prog_9_method_16_code 17 = .ok (.aaload, 1) := by decide +kernel
theorem d59_18 : decode prog_9_method_16_code 18 = .ok (.aload_n 1, 1) := by decide +kernel
theorem d59_19 : decode prog_9_method_16_code 19 = .ok (.invokevirtual 154, 3) := by decide +kernel
theorem d59_22 : decode prog_9_method_16_code 22 = .ok (.ifCond .eq 6, 3) := by decide +kernel
theorem d59_25 : decode prog_9_method_16_code 25 = .ok (.iinc 2 1, 3) := by decide +kernel
theorem d59_28 : decode prog_9_method_16_code 28 = .ok (.iinc 3 1, 3) := by decide +kernel
theorem d59_31 : decode prog_9_method_16_code 31 = .ok (.goto (-27), 3) := by decide +kernel
theorem d59_34 : decode prog_9_method_16_code 34 = .ok (.iload_n 2, 1) := by decide +kernel
theorem d59_35 : decode prog_9_method_16_code 35 = .ok (.ireturn, 1) := by decide +kernel
theorem d60_0 : decode prog_9_method_17_code 0 = .ok (.iconst 0, 1) := by decide +kernel
theorem d60_1 : decode prog_9_method_17_code 1 = .ok (.istore_n 2, 1) := by decide +kernel
theorem d60_2 : decode prog_9_method_17_code 2 = .ok (.iconst 0, 1) := by decide +kernel
theorem d60_3 : decode prog_9_method_17_code 3 = .ok (.istore_n 3, 1) := by decide +kernel
theorem d60_4 : decode prog_9_method_17_code 4 = .ok (.iload_n 3, 1) := by decide +kernel
theorem d60_5 : decode prog_9_method_17_code 5 = .ok (.iconst 3, 1) := by decide +kernel
theorem d60_6 : decode prog_9_method_17_code 6 = .ok (.if_icmp .ge 65, 3) := by decide +kernel
theorem d60_9 : decode prog_9_method_17_code 9 = .ok (.iload_n 3, 1) := by decide +kernel
theorem d60_10 : decode prog_9_method_17_code 10 = .ok (.iload_n 1, 1) := by decide +kernel
theorem d60_11 : decode prog_9_method_17_code 11 = .ok (.if_icmp .ge 25, 3) := by decide +kernel
theorem d60_14 : decode prog_9_method_17_code 14 = .ok (.aload_n 0, 1) := by decide +kernel
theorem d60_15 : decode prog_9_method_17_code 15 = .ok (.getfield 26, 3) := by decide +kernel
theorem d60_18 : decode prog_9_method_17_code 18 = .ok (.iload_n 1, 1) := by decide +kernel
theorem d60_19 : decode prog_9_method_17_code 19 = .ok (.aaload, 1) := by decide +kernel
theorem d60_20 : decode prog_9_method_17_code 20 = .ok (.aload_n 0, 1) := by decide +kernel
theorem d60_21 : decode prog_9_method_17_code 21 = .ok (.getfield 26, 3) := by decide +kernel
theorem d60_24 : decode prog_9_method_17_code 24 = .ok (.iload_n 3, 1) := by decide +kernel
theorem d60_25 : decode prog_9_method_17_code 25 = .ok (.aaload, 1) := by decide +kernel
theorem d60_26 : decode prog_9_method_17_code 26 = .ok (.invokevirtual 158, 3) := by decide +kernel
theorem d60_29 : decode prog_9_method_17_code 29 = .ok (.ifCond .ne 7, 3) := by decide +kernel
theorem d60_32 : decode prog_9_method_17_code 32 = .ok (.iconst 1, 1) := by decide +kernel
theorem d60_33 : decode prog_9_method_17_code 33 = .ok (.goto 4, 3) := by decide +kernel
theorem d60_36 : decode prog_9_method_17_code 36 = .ok (.iconst 0, 1) := by decide +kernel
theorem d60_37 : decode prog_9_method_17_code 37 = .ok (.istore 4, 2) := by decide +kernel
theorem d60_39 : decode prog_9_method_17_code 39 = .ok (.iload 4, 2) := by decide +kernel
theorem d60_41 : decode prog_9_method_17_code 41 = .ok (.ifCond .ne 21, 3) := by decide +kernel
theorem d60_44 : decode prog_9_method_17_code 44 = .ok (.aload_n 0, 1) := by decide +kernel
theorem d60_45 : decode prog_9_method_17_code 45 = .ok (.getfield 26, 3) := by decide +kernel
theorem d60_48 : decode prog_9_method_17_code 48 = .ok (.iload_n 3, 1) := by decide +kernel
theorem d60_49 : decode prog_9_method_17_code 49 = .ok (.aaload, 1) := by decide +kernel
theorem d60_50 : decode prog_9_method_17_code 50 = .ok (.aload_n 0, 1) := by decide +kernel
theorem d60_51 : decode prog_9_method_17_code 51 = .ok (.getfield 26, 3) := by decide +kernel
theorem d60_54 : decode prog_9_method_17_code 54 = .ok (.iload_n 1, 1) := by decide +kernel
theorem d60_55 : decode prog_9_method_17_code 55 = .ok (.aaload, 1) := by decide +kernel
theorem d60_56 : decode prog_9_method_17_code 56 = .ok (.invokevirtual 158, 3) := by decide +kernel
theorem d60_59 : decode prog_9_method_17_code 59 = .ok (.ifCond .eq 6, 3) := by decide +kernel
theorem d60_62 : decode prog_9_method_17_code 62 = .ok (.iinc 2 1, 3) := by decide +kernel
theorem d60_65 : decode prog_9_method_17_code 65 = .ok (.iinc 3 1, 3) := by decide +kernel
theorem d60_68 : decode prog_9_method_17_code 68 = .ok (.goto (-64), 3) := by decide +kernel
theorem d60_71 : decode prog_9_method_17_code 71 = .ok (.iload_n 2, 1) := by decide +kernel
theorem d60_72 : decode prog_9_method_17_code 72 = .ok (.ireturn, 1) := by decide +kernel
theorem d61_0 : decode prog_1_method_1_code 0 = .ok (.aload_n 0, 1) := by decide +kernel
theorem d61_1 : decode prog_1_method_1_code 1 = .ok (.invokespecial 1, 3) := by decide +kernel
theorem d61_4 : decode prog_1_method_1_code 4 = .ok (.aload_n 0, 1) := by decide +kernel
theorem d61_5 : decode prog_1_method_1_code 5 = .ok (.new 7, 3) := by decide +kernel
theorem d61_8 : decode prog_1_method_1_code 8 = .ok (.dup, 1) := by decide +kernel
theorem d61_9 : decode prog_1_method_1_code 9 = .ok (.invokespecial 9, 3) := by decide +kernel
theorem d61_12 : decode prog_1_method_1_code 12 = .ok (.putfield 10, 3) := by decide +kernel
theorem d61_15 : decode prog_1_method_1_code 15 = .ok (.aload_n 0, 1) := by decide +kernel
theorem d61_16 : decode prog_1_method_1_code 16 = .ok (.new 7, 3) := by decide +kernel
theorem d61_19 : decode prog_1_method_1_code 19 = .ok (.dup, 1) := by decide +kernel
theorem d61_20 : decode prog_1_method_1_code 20 = .ok (.invokespecial 9, 3) := by decide +kernel
theorem d61_23 : decode prog_1_method_1_code 23 = .ok (.putfield 16, 3) := by decide +kernel
theorem d61_26 : decode prog_1_method_1_code 26 = .ok (.aload_n 0, 1) := by decide +kernel
theorem d61_27 : decode prog_1_method_1_code 27 = .ok (.iconst 0, 1) := by decide +kernel
theorem d61_28 : decode prog_1_method_1_code 28 = .ok (.putfield 19, 3) := by decide +kernel
theorem d61_31 : decode prog_1_method_1_code 31 = .ok (.aload_n 0, 1) := by decide +kernel
theorem d61_32 : decode prog_1_method_1_code 32 = .ok (.new 23, 3) := by decide +kernel
theorem d61_35 : decode prog_1_method_1_code 35 = .ok (.dup, 1) := by decide +kernel
theorem d61_36 : decode prog_1_method_1_code 36 = .ok (.invokespecial 25, 3) := by decide +kernel
theorem d61_39 : decode prog_1_method_1_code 39 = .ok (.putfield 26, 3) := by decide +kernel
theorem d61_42 : decode prog_1_method_1_code 42 = .ok (.aload_n 0, 1) := by decide +kernel
theorem d61_43 : decode prog_1_method_1_code 43 = .ok (.new 30, 3) := by decide +kernel
theorem d61_46 : decode prog_1_method_1_code 46 = .ok (.dup, 1) := by decide +kernel
theorem d61_47 : decode prog_1_method_1_code 47 = .ok (.invokespecial 32, 3) := by decide +kernel
theorem d61_50 : decode prog_1_method_1_code 50 = .ok (.putfield 33, 3) := by decide +kernel
theorem d61_53 : decode prog_1_method_1_code 53 = .ok (.aload_n 0, 1) := by decide +kernel
theorem d61_54 : decode prog_1_method_1_code 54 = .ok (.new 37, 3) := by decide +kernel
theorem d61_57 : decode prog_1_method_1_code 57 = .ok (.dup, 1) := by decide +kernel
theorem d61_58 : decode prog_1_method_1_code 58 = .ok (.invokespecial 39, 3) := by decide +kernel
theorem d61_61 : decode prog_1_method_1_code 61 = .ok (.putfield 40, 3) := by decide +kernel
theorem d61_64 : decode prog_1_method_1_code 64 = .ok (.aload_n 0, 1) := by decide +kernel
theorem d61_65 : decode prog_1_method_1_code 65 = .ok (.new 44, 3) := by decide +kernel
theorem d61_68 : decode prog_1_method_1_code 68 = .ok (.dup, 1) := by decide +kernel
theorem d61_69 : decode prog_1_method_1_code 69 = .ok (.invokespecial 46, 3) := by decide +kernel
theorem d61_72 : decode prog_1_method_1_code 72 = .ok (.putfield 47, 3) := by decide +kernel
theorem d61_75 : decode prog_1_method_1_code 75 = .ok (.aload_n 0, 1) := by decide +kernel
theorem d61_76 : decode prog_1_method_1_code 76 = .ok (.iconst (-1), 1) := by decide +kernel
theorem d61_77 : decode prog_1_method_1_code 77 = .ok (.putfield 51, 3) := by decide +kernel
theorem d61_80 : decode prog_1_method_1_code 80 = .ok (.aload_n 0, 1) := by decide +kernel
theorem d61_81 : decode prog_1_method_1_code 81 = .ok (.iconst (-1), 1) := by decide +kernel
theorem d61_82 : decode prog_1_method_1_code 82 = .ok (.putfield 55, 3) := by decide +kernel
theorem d61_85 : decode prog_1_method_1_code 85 = .ok (.return_, 1) := by decide +kernel
theorem d62_0 : decode prog_1_method_13_code 0 = .ok (.aload_n 0, 1) := by decide +kernel
theorem d62_1 : decode prog_1_method_13_code 1 = .ok (.getfield 10, 3) := by decide +kernel
theorem d62_4 : decode prog_1_method_13_code 4 = .ok (.getfield 106, 3) := by decide +kernel
theorem d62_7 : decode prog_1_method_13_code 7 = .ok (.ireturn, 1) := by decide +kernel
theorem d63_0 : decode prog_1_method_14_code 0 = .ok (.aload_n 0, 1) := by decide +kernel
theorem d63_1 : decode prog_1_method_14_code 1 = .ok (.getfield 10, 3) := by decide +kernel
theorem d63_4 : decode prog_1_method_14_code 4 = .ok (.iload_n 1, 1) := by decide +kernel
theorem d63_5 : decode prog_1_method_14_code 5 = .ok (.invokevirtual 109, 3) := by decide +kernel
theorem d63_8 : decode prog_1_method_14_code 8 = .ok (.ifnull 7, 3) := by decide +kernel
theorem d63_11 : decode prog_1_method_14_code 11 = .ok (.iconst 1, 1) := by decide +kernel
theorem d63_12 : decode prog_1_method_14_code 12 = .ok (.goto 4, 3) := by decide +kernel
theorem d63_15 : decode prog_1_method_14_code 15 = .ok (.iconst 0, 1) := by decide +kernel
theorem d63_16 : decode prog_1_method_14_code 16 = .ok (.ireturn, 1) := by decide +kernel
theorem d64_0 : decode prog_1_method_36_code 0 = .ok (.lconst 0, 1) := by decide +kernel
theorem d64_1 : decode prog_1_method_36_code 1 = .ok (.lstore_n 1, 1) := by decide +kernel
theorem d64_2 : decode prog_1_method_36_code 2 = .ok (.aload_n 0, 1) := by decide +kernel
theorem d64_3 : decode prog_1_method_36_code 3 = .ok (.getfield 10, 3) := by decide +kernel
theorem d64_6 : decode prog_1_method_36_code 6 = .ok (.getfield 203, 3) := by decide +kernel
theorem d64_9 : decode prog_1_method_36_code 9 = .ok (.astore_n 3, 1) := by decide +kernel
theorem d64_10 : decode prog_1_method_36_code 10 = .ok (.aload_n 3, 1) := by decide +kernel
theorem d64_11 : decode prog_1_method_36_code 11 = .ok (.arraylength, 1) := by decide +kernel
theorem d64_12 : decode prog_1_method_36_code 12 = .ok (.istore 4, 2) := by decide +kernel
theorem d64_14 : decode prog_1_method_36_code 14 = .ok (.iconst 0, 1) := by decide +kernel
theorem d64_15 : decode prog_1_method_36_code 15 = .ok (.istore 5, 2) := by decide +kernel
theorem d64_17 : decode prog_1_method_36_code 17 = .ok (.iload 5, 2) := by decide +kernel
theorem d64_19 : decode prog_1_method_36_code 19 = .ok (.iload 4, 2) := by decide +kernel
theorem d64_21 : decode prog_1_method_36_code 21 = .ok (.if_icmp .ge 24, 3) := by decide +kernel
theorem d64_24 : decode prog_1_method_36_code 24 = .ok (.aload_n 3, 1) := by decide +kernel
theorem d64_25 : decode prog_1_method_36_code 25 = .ok (.iload 5, 2) := by decide +kernel
theorem d64_27 : decode prog_1_method_36_code 27 = .ok (.aaload, 1) := by decide +kernel
theorem d64_28 : decode prog_1_method_36_code 28 = .ok (.astore 6, 2) := by decide +kernel
theorem d64_30 : decode prog_1_method_36_code 30 = .ok (.lload_n 1, 1) := by decide +kernel
theorem d64_31 : decode prog_1_method_36_code 31 = .ok (.aload 6, 2) := by decide +kernel
theorem d64_33 : decode prog_1_method_36_code 33 = .ok (.getfield 220, 3) := by decide +kernel
theorem d64_36 : decode prog_1_method_36_code 36 = .ok (.i2l, 1) := by decide +kernel
theorem d64_37 : decode prog_1_method_36_code 37 = .ok (.ladd, 1) := by decide +kernel
theorem d64_38 : decode prog_1_method_36_code 38 = .ok (.lstore_n 1, 1) := by decide +kernel
theorem d64_39 : decode prog_1_method_36_code 39 = .ok (.iinc 5 1, 3) := by decide +kernel
theorem d64_42 : decode prog_1_method_36_code 42 = .ok (.goto (-25), 3) := by decide +kernel
theorem d64_45 : decode prog_1_method_36_code 45 = .ok (.lload_n 1, 1) := by decide +kernel
theorem d64_46 : decode prog_1_method_36_code 46 = .ok (.lreturn, 1) := by decide +kernel
theorem d65_0 : decode prog_1_method_37_code 0 = .ok (.ldc2_w 223, 3) := by decide +kernel
theorem d65_3 : decode prog_1_method_37_code 3 = .ok (.aload_n 0, 1) := by decide +kernel
theorem d65_4 : decode prog_1_method_37_code 4 = .ok (.getfield 10, 3) := by decide +kernel
theorem d65_7 : decode prog_1_method_37_code 7 = .ok (.getfield 225, 3) := by decide +kernel
theorem d65_10 : decode prog_1_method_37_code 10 = .ok (.lmul, 1) := by decide +kernel
theorem d65_11 : decode prog_1_method_37_code 11 = .ok (.ldc2_w 229, 3) := by decide +kernel
theorem d65_14 : decode prog_1_method_37_code 14 = .ok (.aload_n 0, 1) := by decide +kernel
theorem d65_15 : decode prog_1_method_37_code 15 = .ok (.getfield 10, 3) := by decide +kernel
theorem d65_18 : decode prog_1_method_37_code 18 = .ok (.getfield 231, 3) := by decide +kernel
theorem d65_21 : decode prog_1_method_37_code 21 = .ok (.lmul, 1) := by decide +kernel
theorem d65_22 : decode prog_1_method_37_code 22 = .ok (.lsub, 1) := by decide +kernel
theorem d65_23 : decode prog_1_method_37_code 23 = .ok (.lreturn, 1) := by decide +kernel
theorem d66_0 : decode prog_1_method_38_code 0 = .ok (.aload_n 0, 1) := by decide +kernel
theorem d66_1 : decode prog_1_method_38_code 1 = .ok (.getfield 10, 3) := by decide +kernel
theorem d66_4 : decode prog_1_method_38_code 4 = .ok (.getfield 234, 3) := by decide +kernel
theorem d66_7 : decode prog_1_method_38_code 7 = .ok (.ireturn, 1) := by decide +kernel
theorem d67_0 : decode prog_1_method_40_code 0 = .ok (.iconst 0, 1) := by decide +kernel
theorem d67_1 : decode prog_1_method_40_code 1 = .ok (.istore_n 1, 1) := by decide +kernel
theorem d67_2 : decode prog_1_method_40_code 2 = .ok (.aload_n 0, 1) := by decide +kernel
theorem d67_3 : decode prog_1_method_40_code 3 = .ok (.getfield 10, 3) := by decide +kernel
theorem d67_6 : decode prog_1_method_40_code 6 = .ok (.getfield 174, 3) := by decide +kernel
theorem d67_9 : decode prog_1_method_40_code 9 = .ok (.astore_n 2, 1) := by decide +kernel
theorem d67_10 : decode prog_1_method_40_code 10 = .ok (.aload_n 2, 1) := by decide +kernel
theorem d67_11 : decode prog_1_method_40_code 11 = .ok (.arraylength, 1) := by decide +kernel
theorem d67_12 : decode prog_1_method_40_code 12 = .ok (.istore_n 3, 1) := by decide +kernel
theorem d67_13 : decode prog_1_method_40_code 13 = .ok (.iconst 0, 1) := by decide +kernel
theorem d67_14 : decode prog_1_method_40_code 14 = .ok (.istore 4, 2) := by decide +kernel
theorem d67_16 : decode prog_1_method_40_code 16 = .ok (.iload 4, 2) := by decide +kernel
theorem d67_18 : decode prog_1_method_40_code 18 = .ok (.iload_n 3, 1) := by decide +kernel
theorem d67_19 : decode prog_1_method_40_code 19 = .ok (.if_icmp .ge 24, 3) := by decide +kernel
theorem d67_22 : decode prog_1_method_40_code 22 = .ok (.aload_n 2, 1) := by decide +kernel
theorem d67_23 : decode prog_1_method_40_code 23 = .ok (.iload 4, 2) := by decide +kernel
theorem d67_25 : decode prog_1_method_40_code 25 = .ok (.iaload, 1) := by decide +kernel
theorem d67_26 : decode prog_1_method_40_code 26 = .ok (.istore 5, 2) := by decide +kernel
theorem d67_28 : decode prog_1_method_40_code 28 = .ok (.iload 5, 2) := by decide +kernel
theorem d67_30 : decode prog_1_method_40_code 30 = .ok (.iconst (-1), 1) := by decide +kernel
theorem d67_31 : decode prog_1_method_40_code 31 = .ok (.if_icmp .eq 6, 3) := by decide +kernel
theorem d67_34 : decode prog_1_method_40_code 34 = .ok (.iinc 1 1, 3) := by decide +kernel
theorem d67_37 : decode prog_1_method_40_code 37 = .ok (.iinc 4 1, 3) := by decide +kernel
theorem d67_40 : decode prog_1_method_40_code 40 = .ok (.goto (-24), 3) := by decide +kernel
theorem d67_43 : decode prog_1_method_40_code 43 = .ok (.iload_n 1, 1) := by decide +kernel
theorem d67_44 : decode prog_1_method_40_code 44 = .ok (.i2f, 1) := by decide +kernel
theorem d67_45 : decode prog_1_method_40_code 45 = .ok (.ldc 240, 2) := by decide +kernel
theorem d67_47 : decode prog_1_method_40_code 47 = .ok (.fdiv, 1) := by decide +kernel
theorem d67_48 : decode prog_1_method_40_code 48 = .ok (.freturn, 1) := by decide +kernel
theorem d68_0 : decode prog_1_method_42_code 0 = .ok (.iconst 0, 1) := by decide +kernel
theorem d68_1 : decode prog_1_method_42_code 1 = .ok (.istore_n 1, 1) := by decide +kernel
theorem d68_2 : decode prog_1_method_42_code 2 = .ok (.iload_n 1, 1) := by decide +kernel
theorem d68_3 : decode prog_1_method_42_code 3 = .ok (.iconst 3, 1) := by decide +kernel
theorem d68_4 : decode prog_1_method_42_code 4 = .ok (.if_icmp .ge 68, 3) := by decide +kernel
theorem d68_7 : decode prog_1_method_42_code 7 = .ok (.aload_n 0, 1) := by decide +kernel
theorem d68_8 : decode prog_1_method_42_code 8 = .ok (.getfield 33, 3) := by decide +kernel
theorem d68_11 : decode prog_1_method_42_code 11 = .ok (.aload_n 0, 1) := by decide +kernel
theorem d68_12 : decode prog_1_method_42_code 12 = .ok (.getfield 10, 3) := by decide +kernel
theorem d68_15 : decode prog_1_method_42_code 15 = .ok (.iload_n 1, 1) := by decide +kernel
theorem d68_16 : decode prog_1_method_42_code 16 = .ok (.invokevirtual 207, 3) := by decide +kernel
theorem d68_19 : decode prog_1_method_42_code 19 = .ok (.aload_n 0, 1) := by decide +kernel
theorem d68_20 : decode prog_1_method_42_code 20 = .ok (.getfield 33, 3) := by decide +kernel
theorem d68_23 : decode prog_1_method_42_code 23 = .ok (.aload_n 0, 1) := by decide +kernel
theorem d68_24 : decode prog_1_method_42_code 24 = .ok (.getfield 10, 3) := by decide +kernel
theorem d68_27 : decode prog_1_method_42_code 27 = .ok (.iload_n 1, 1) := by decide +kernel
theorem d68_28 : decode prog_1_method_42_code 28 = .ok (.invokevirtual 211, 3) := by decide +kernel
theorem d68_31 : decode prog_1_method_42_code 31 = .ok (.if_icmp .ne 33, 3) := by decide +kernel
theorem d68_34 : decode prog_1_method_42_code 34 = .ok (.aload_n 0, 1) := by decide +kernel
theorem d68_35 : decode prog_1_method_42_code 35 = .ok (.getfield 10, 3) := by decide +kernel
theorem d68_38 : decode prog_1_method_42_code 38 = .ok (.getfield 203, 3) := by decide +kernel
theorem d68_41 : decode prog_1_method_42_code 41 = .ok (.iload_n 1, 1) := by decide +kernel
theorem d68_42 : decode prog_1_method_42_code 42 = .ok (.aaload, 1) := by decide +kernel
theorem d68_43 : decode prog_1_method_42_code 43 = .ok (.invokevirtual 244, 3) := by decide +kernel
theorem d68_46 : decode prog_1_method_42_code 46 = .ok (.bipush 10, 2) := by decide +kernel
theorem d68_48 : decode prog_1_method_42_code 48 = .ok (.if_icmp .gt 16, 3) := by decide +kernel
theorem d68_51 : decode prog_1_method_42_code 51 = .ok (.aload_n 0, 1) := by decide +kernel
theorem d68_52 : decode prog_1_method_42_code 52 = .ok (.getfield 10, 3) := by decide +kernel
theorem d68_55 : decode prog_1_method_42_code 55 = .ok (.iload_n 1, 1) := by decide +kernel
theorem d68_56 : decode prog_1_method_42_code 56 = .ok (.invokevirtual 190, 3) := by decide +kernel
theorem d68_59 : decode prog_1_method_42_code 59 = .ok (.bipush 6, 2) := by decide +kernel
theorem d68_61 : decode prog_1_method_42_code 61 = .ok (.if_icmp .le 5, 3) := by decide +kernel
theorem d68_64 : decode prog_1_method_42_code 64 = .ok (.iconst 0, 1) := by decide +kernel
theorem d68_65 : decode prog_1_method_42_code 65 = .ok (.ireturn, 1) := by decide +kernel
theorem d68_66 : decode prog_1_method_42_code 66 = .ok (.iinc 1 1, 3) := by decide +kernel
theorem d68_69 : decode prog_1_method_42_code 69 = .ok (.goto (-67), 3) := by decide +kernel
theorem d68_72 : decode prog_1_method_42_code 72 = .ok (.aload_n 0, 1) := by decide +kernel
theorem d68_73 : decode prog_1_method_42_code 73 = .ok (.invokevirtual 248, 3) := by decide +kernel
theorem d68_76 : decode prog_1_method_42_code 76 = .ok (.aload_n 0, 1) := by decide +kernel
theorem d68_77 : decode prog_1_method_42_code 77 = .ok (.invokevirtual 252, 3) := by decide +kernel
theorem d68_80 : decode prog_1_method_42_code 80 = .ok (.lcmp, 1) := by decide +kernel
theorem d68_81 : decode prog_1_method_42_code 81 = .ok (.ifCond .ne 7, 3) := by decide +kernel
theorem d68_84 : decode prog_1_method_42_code 84 = .ok (.iconst 1, 1) := by decide +kernel
theorem d68_85 : decode prog_1_method_42_code 85 = .ok (.goto 4, 3) := by decide +kernel
theorem d68_88 : decode prog_1_method_42_code 88 = .ok (.iconst 0, 1) := by decide +kernel
theorem d68_89 : decode prog_1_method_42_code 89 = .ok (.ireturn, 1) := by decide +kernel
theorem d69_0 : decode prog_1_method_63_code 0 = .ok (.iload_n 0, 1) := by decide +kernel
theorem d69_1 : decode prog_1_method_63_code 1 = .ok (.ifCond .lt 12, 3) := by decide +kernel
theorem d69_4 : decode prog_1_method_63_code 4 = .ok (.iload_n 0, 1) := by decide +kernel
theorem d69_5 : decode prog_1_method_63_code 5 = .ok (.iconst 3, 1) := by decide +kernel
theorem d69_6 : decode prog_1_method_63_code 6 = .ok (.if_icmp .ge 7, 3) := by decide +kernel
theorem d69_9 : decode prog_1_method_63_code 9 = .ok (.iconst 1, 1) := by decide +kernel
theorem d69_10 : decode prog_1_method_63_code 10 = .ok (.goto 4, 3) := by decide +kernel
theorem d69_13 : decode prog_1_method_63_code 13 = .ok (.iconst 0, 1) := by decide +kernel
theorem d69_14 : decode prog_1_method_63_code 14 = .ok (.ireturn, 1) := by decide +kernel
theorem d70_0 : decode prog_1_method_65_code 0 = .ok (.iload_n 0, 1) := by decide +kernel
theorem d70_1 : decode prog_1_method_65_code 1 = .ok (.iload_n 2, 1) := by decide +kernel
theorem d70_2 : decode prog_1_method_65_code 2 = .ok (.isub, 1) := by decide +kernel
theorem d70_3 : decode prog_1_method_65_code 3 = .ok (.invokestatic 353, 3) := by decide +kernel
theorem d70_6 : decode prog_1_method_65_code 6 = .ok (.iload_n 1, 1) := by decide +kernel
theorem d70_7 : decode prog_1_method_65_code 7 = .ok (.iload_n 3, 1) := by decide +kernel
theorem d70_8 : decode prog_1_method_65_code 8 = .ok (.isub, 1) := by decide +kernel
theorem d70_9 : decode prog_1_method_65_code 9 = .ok (.invokestatic 353, 3) := by decide +kernel
theorem d70_12 : decode prog_1_method_65_code 12 = .ok (.iadd, 1) := by decide +kernel
theorem d70_13 : decode prog_1_method_65_code 13 = .ok (.ireturn, 1) := by decide +kernel
theorem d71_0 : decode prog_1_method_51_code 0 = .ok (.aload_n 0, 1) := by decide +kernel
theorem d71_1 : decode prog_1_method_51_code 1 = .ok (.getfield 16, 3) := by decide +kernel
theorem d71_4 : decode prog_1_method_51_code 4 = .ok (.aload_n 0, 1) := by decide +kernel
theorem d71_5 : decode prog_1_method_51_code 5 = .ok (.getfield 10, 3) := by decide +kernel
theorem d71_8 : decode prog_1_method_51_code 8 = .ok (.invokevirtual 314, 3) := by decide +kernel
theorem d71_11 : decode prog_1_method_51_code 11 = .ok (.aload_n 0, 1) := by decide +kernel
theorem d71_12 : decode prog_1_method_51_code 12 = .ok (.iconst 1, 1) := by decide +kernel
theorem d71_13 : decode prog_1_method_51_code 13 = .ok (.putfield 19, 3) := by decide +kernel
theorem d71_16 : decode prog_1_method_51_code 16 = .ok (.aload_n 0, 1) := by decide +kernel
theorem d71_17 : decode prog_1_method_51_code 17 = .ok (.getfield 10, 3) := by decide +kernel
theorem d71_20 : decode prog_1_method_51_code 20 = .ok (.getfield 106, 3) := by decide +kernel
theorem d71_23 : decode prog_1_method_51_code 23 = .ok (.ireturn, 1) := by decide +kernel
theorem d72_0 : decode prog_1_method_2_code 0 = .ok (.aload_n 0, 1) := by decide +kernel
theorem d72_1 : decode prog_1_method_2_code 1 = .ok (.getfield 26, 3) := by decide +kernel
theorem d72_4 : decode prog_1_method_2_code 4 = .ok (.aload_n 0, 1) := by decide +kernel
theorem d72_5 : decode prog_1_method_2_code 5 = .ok (.getfield 10, 3) := by decide +kernel
theorem d72_8 : decode prog_1_method_2_code 8 = .ok (.invokevirtual 58, 3) := by decide +kernel
theorem d72_11 : decode prog_1_method_2_code 11 = .ok (.aload_n 0, 1) := by decide +kernel
theorem d72_12 : decode prog_1_method_2_code 12 = .ok (.aload_n 0, 1) := by decide +kernel
theorem d72_13 : decode prog_1_method_2_code 13 = .ok (.getfield 10, 3) := by decide +kernel
theorem d72_16 : decode prog_1_method_2_code 16 = .ok (.iload_n 1, 1) := by decide +kernel
theorem d72_17 : decode prog_1_method_2_code 17 = .ok (.iload_n 2, 1) := by decide +kernel
theorem d72_18 : decode prog_1_method_2_code 18 = .ok (.iload_n 3, 1) := by decide +kernel
theorem d72_19 : decode prog_1_method_2_code 19 = .ok (.invokestatic 62, 3) := by decide +kernel
theorem d72_22 : decode prog_1_method_2_code 22 = .ok (.iload 4, 2) := by decide +kernel
theorem d72_24 : decode prog_1_method_2_code 24 = .ok (.iload 5, 2) := by decide +kernel
theorem d72_26 : decode prog_1_method_2_code 26 = .ok (.iload 6, 2) := by decide +kernel
theorem d72_28 : decode prog_1_method_2_code 28 = .ok (.invokevirtual 66, 3) := by decide +kernel
theorem d72_31 : decode prog_1_method_2_code 31 = .ok (.invokevirtual 70, 3) := by decide +kernel
theorem d72_34 : decode prog_1_method_2_code 34 = .ok (.ireturn, 1) := by decide +kernel
theorem d73_0 : decode prog_1_method_59_code 0 = .ok (.iload_n 0, 1) := by decide +kernel
theorem d73_1 : decode prog_1_method_59_code 1 = .ok (.bipush 97, 2) := by decide +kernel
theorem d73_3 : decode prog_1_method_59_code 3 = .ok (.if_icmp .lt 16, 3) := by decide +kernel
theorem d73_6 : decode prog_1_method_59_code 6 = .ok (.iload_n 0, 1) := by decide +kernel
theorem d73_7 : decode prog_1_method_59_code 7 = .ok (.bipush 101, 2) := by decide +kernel
theorem d73_9 : decode prog_1_method_59_code 9 = .ok (.if_icmp .ge 10, 3) := by decide +kernel
theorem d73_12 : decode prog_1_method_59_code 12 = .ok (.iload_n 0, 1) := by decide +kernel
theorem d73_13 : decode prog_1_method_59_code 13 = .ok (.bipush 97, 2) := by decide +kernel
theorem d73_15 : decode prog_1_method_59_code 15 = .ok (.isub, 1) := by decide +kernel
theorem d73_16 : decode prog_1_method_59_code 16 = .ok (.goto 4, 3) := by decide +kernel
theorem d73_19 : decode prog_1_method_59_code 19 = .ok (.iconst (-1), 1) := by decide +kernel
theorem d73_20 : decode prog_1_method_59_code 20 = .ok (.ireturn, 1) := by decide +kernel
theorem d74_0 : decode prog_1_method_64_code 0 = .ok (.iload_n 0, 1) := by decide +kernel
theorem d74_1 : decode prog_1_method_64_code 1 = .ok (.ifCond .lt 13, 3) := by decide +kernel
theorem d74_4 : decode prog_1_method_64_code 4 = .ok (.iload_n 0, 1) := by decide +kernel
theorem d74_5 : decode prog_1_method_64_code 5 = .ok (.bipush 20, 2) := by decide +kernel
theorem d74_7 : decode prog_1_method_64_code 7 = .ok (.if_icmp .gt 7, 3) := by decide +kernel
theorem d74_10 : decode prog_1_method_64_code 10 = .ok (.iconst 1, 1) := by decide +kernel
theorem d74_11 : decode prog_1_method_64_code 11 = .ok (.goto 4, 3) := by decide +kernel
theorem d74_14 : decode prog_1_method_64_code 14 = .ok (.iconst 0, 1) := by decide +kernel
theorem d74_15 : decode prog_1_method_64_code 15 = .ok (.ireturn, 1) := by decide +kernel
theorem d75_0 : decode prog_1_method_61_code 0 = .ok (.iload_n 0, 1) := by decide +kernel
theorem d75_1 : decode prog_1_method_61_code 1 = .ok (.ifCond .lt 12, 3) := by decide +kernel
theorem d75_4 : decode prog_1_method_61_code 4 = .ok (.iload_n 0, 1) := by decide +kernel
theorem d75_5 : decode prog_1_method_61_code 5 = .ok (.iconst 4, 1) := by decide +kernel
theorem d75_6 : decode prog_1_method_61_code 6 = .ok (.if_icmp .ge 7, 3) := by decide +kernel
theorem d75_9 : decode prog_1_method_61_code 9 = .ok (.iconst 1, 1) := by decide +kernel
theorem d75_10 : decode prog_1_method_61_code 10 = .ok (.goto 4, 3) := by decide +kernel
theorem d75_13 : decode prog_1_method_61_code 13 = .ok (.iconst 0, 1) := by decide +kernel
theorem d75_14 : decode prog_1_method_61_code 14 = .ok (.ireturn, 1) := by decide +kernel
theorem d76_0 : decode prog_1_method_62_code 0 = .ok (.iload_n 0, 1) := by decide +kernel
theorem d76_1 : decode prog_1_method_62_code 1 = .ok (.ifCond .lt 13, 3) := by decide +kernel
theorem d76_4 : decode prog_1_method_62_code 4 = .ok (.iload_n 0, 1) := by decide +kernel
theorem d76_5 : decode prog_1_method_62_code 5 = .ok (.bipush 6, 2) := by decide +kernel
theorem d76_7 : decode prog_1_method_62_code 7 = .ok (.if_icmp .ge 7, 3) := by decide +kernel
theorem d76_10 : decode prog_1_method_62_code 10 = .ok (.iconst 1, 1) := by decide +kernel
theorem d76_11 : decode prog_1_method_62_code 11 = .ok (.goto 4, 3) := by decide +kernel
theorem d76_14 : decode prog_1_method_62_code 14 = .ok (.iconst 0, 1) := by decide +kernel
theorem d76_15 : decode prog_1_method_62_code 15 = .ok (.ireturn, 1) := by decide +kernel
theorem d77_0 : decode prog_1_method_53_code 0 = .ok (.iload_n 1, 1) := by decide +kernel
theorem d77_1 : decode prog_1_method_53_code 1 = .ok (.tableswitch 75 (-5) (-1) #[67, 59, 51, 43, 35], 35) := by decide +kernel
theorem d77_36 : decode prog_1_method_53_code 36 = .ok (.new 294, 3) := by decide +kernel
theorem d77_39 : decode prog_1_method_53_code 39 = .ok (.dup, 1) := by decide +kernel
theorem d77_40 : decode prog_1_method_53_code 40 = .ok (.invokespecial 296, 3) := by decide +kernel
theorem d77_43 : decode prog_1_method_53_code 43 = .ok (.athrow, 1) := by decide +kernel
theorem d77_44 : decode prog_1_method_53_code 44 = .ok (.new 283, 3) := by decide +kernel
theorem d77_47 : decode prog_1_method_53_code 47 = .ok (.dup, 1) := by decide +kernel
theorem d77_48 : decode prog_1_method_53_code 48 = .ok (.invokespecial 285, 3) := by decide +kernel
theorem d77_51 : decode prog_1_method_53_code 51 = .ok (.athrow, 1) := by decide +kernel
theorem d77_52 : decode prog_1_method_53_code 52 = .ok (.new 171, 3) := by decide +kernel
theorem d77_55 : decode prog_1_method_53_code 55 = .ok (.dup, 1) := by decide +kernel
theorem d77_56 : decode prog_1_method_53_code 56 = .ok (.invokespecial 173, 3) := by decide +kernel
theorem d77_59 : decode prog_1_method_53_code 59 = .ok (.athrow, 1) := by decide +kernel
theorem d77_60 : decode prog_1_method_53_code 60 = .ok (.new 134, 3) := by decide +kernel
theorem d77_63 : decode prog_1_method_53_code 63 = .ok (.dup, 1) := by decide +kernel
theorem d77_64 : decode prog_1_method_53_code 64 = .ok (.invokespecial 136, 3) := by decide +kernel
theorem d77_67 : decode prog_1_method_53_code 67 = .ok (.athrow, 1) := by decide +kernel
theorem d77_68 : decode prog_1_method_53_code 68 = .ok (.new 303, 3) := by decide +kernel
theorem d77_71 : decode prog_1_method_53_code 71 = .ok (.dup, 1) := by decide +kernel
theorem d77_72 : decode prog_1_method_53_code 72 = .ok (.invokespecial 305, 3) := by decide +kernel
theorem d77_75 : decode prog_1_method_53_code 75 = .ok (.athrow, 1) := by decide +kernel
theorem d77_76 : decode prog_1_method_53_code 76 = .ok (.aload_n 0, 1) := by decide +kernel
theorem d77_77 : decode prog_1_method_53_code 77 = .ok (.getfield 26, 3) := by decide +kernel
theorem d77_80 : decode prog_1_method_53_code 80 = .ok (.invokevirtual 306, 3) := by decide +kernel
theorem d77_83 : decode prog_1_method_53_code 83 = .ok (.iload_n 1, 1) := by decide +kernel
theorem d77_84 : decode prog_1_method_53_code 84 = .ok (.ireturn, 1) := by decide +kernel
theorem d78_0 : decode prog_1_method_3_code 0 = .ok (.aload_n 0, 1) := by decide +kernel
theorem d78_1 : decode prog_1_method_3_code 1 = .ok (.getfield 26, 3) := by decide +kernel
theorem d78_4 : decode prog_1_method_3_code 4 = .ok (.aload_n 0, 1) := by decide +kernel
theorem d78_5 : decode prog_1_method_3_code 5 = .ok (.getfield 10, 3) := by decide +kernel
theorem d78_8 : decode prog_1_method_3_code 8 = .ok (.invokevirtual 58, 3) := by decide +kernel
theorem d78_11 : decode prog_1_method_3_code 11 = .ok (.aload_n 0, 1) := by decide +kernel
theorem d78_12 : decode prog_1_method_3_code 12 = .ok (.aload_n 0, 1) := by decide +kernel
theorem d78_13 : decode prog_1_method_3_code 13 = .ok (.getfield 10, 3) := by decide +kernel
theorem d78_16 : decode prog_1_method_3_code 16 = .ok (.iload_n 1, 1) := by decide +kernel
theorem d78_17 : decode prog_1_method_3_code 17 = .ok (.invokevirtual 74, 3) := by decide +kernel
theorem d78_20 : decode prog_1_method_3_code 20 = .ok (.invokevirtual 70, 3) := by decide +kernel
theorem d78_23 : decode prog_1_method_3_code 23 = .ok (.ireturn, 1) := by decide +kernel
theorem d79_0 : decode prog_1_method_4_code 0 = .ok (.aload_n 0, 1) := by decide +kernel
theorem d79_1 : decode prog_1_method_4_code 1 = .ok (.getfield 26, 3) := by decide +kernel
theorem d79_4 : decode prog_1_method_4_code 4 = .ok (.aload_n 0, 1) := by decide +kernel
theorem d79_5 : decode prog_1_method_4_code 5 = .ok (.getfield 10, 3) := by decide +kernel
theorem d79_8 : decode prog_1_method_4_code 8 = .ok (.invokevirtual 58, 3) := by decide +kernel
theorem d79_11 : decode prog_1_method_4_code 11 = .ok (.aload_n 0, 1) := by decide +kernel
theorem d79_12 : decode prog_1_method_4_code 12 = .ok (.aload_n 0, 1) := by decide +kernel
theorem d79_13 : decode prog_1_method_4_code 13 = .ok (.getfield 10, 3) := by decide +kernel
theorem d79_16 : decode prog_1_method_4_code 16 = .ok (.iload_n 1, 1) := by decide +kernel
theorem d79_17 : decode prog_1_method_4_code 17 = .ok (.iload_n 2, 1) := by decide +kernel
theorem d79_18 : decode prog_1_method_4_code 18 = .ok (.invokevirtual 77, 3) := by decide +kernel
theorem d79_21 : decode prog_1_method_4_code 21 = .ok (.invokevirtual 70, 3) := by decide +kernel
theorem d79_24 : decode prog_1_method_4_code 24 = .ok (.ireturn, 1) := by decide +kernel
theorem d80_0 : decode prog_1_method_5_code 0 = .ok (.aload_n 0, 1) := by decide +kernel
theorem d80_1 : decode prog_1_method_5_code 1 = .ok (.getfield 26, 3) := by decide +kernel
theorem d80_4 : decode prog_1_method_5_code 4 = .ok (.aload_n 0, 1) := by decide +kernel
theorem d80_5 : decode prog_1_method_5_code 5 = .ok (.getfield 10, 3) := by decide +kernel
theorem d80_8 : decode prog_1_method_5_code 8 = .ok (.invokevirtual 58, 3) := by decide +kernel
theorem d80_11 : decode prog_1_method_5_code 11 = .ok (.aload_n 0, 1) := by decide +kernel
theorem d80_12 : decode prog_1_method_5_code 12 = .ok (.aload_n 0, 1) := by decide +kernel
theorem d80_13 : decode prog_1_method_5_code 13 = .ok (.getfield 10, 3) := by decide +kernel
theorem d80_16 : decode prog_1_method_5_code 16 = .ok (.iload_n 1, 1) := by decide +kernel
theorem d80_17 : decode prog_1_method_5_code 17 = .ok (.invokevirtual 81, 3) := by decide +kernel
theorem d80_20 : decode prog_1_method_5_code 20 = .ok (.invokevirtual 70, 3) := by decide +kernel
theorem d80_23 : decode prog_1_method_5_code 23 = .ok (.ireturn, 1) := by decide +kernel
theorem d81_0 : decode prog_1_method_6_code 0 = .ok (.aload_n 0, 1) := by decide +kernel
theorem d81_1 : decode prog_1_method_6_code 1 = .ok (.getfield 26, 3) := by decide +kernel
theorem d81_4 : decode prog_1_method_6_code 4 = .ok (.aload_n 0, 1) := by decide +kernel
theorem d81_5 : decode prog_1_method_6_code 5 = .ok (.getfield 10, 3) := by decide +kernel
theorem d81_8 : decode prog_1_method_6_code 8 = .ok (.invokevirtual 58, 3) := by decide +kernel
theorem d81_11 : decode prog_1_method_6_code 11 = .ok (.aload_n 0, 1) := by decide +kernel
theorem d81_12 : decode prog_1_method_6_code 12 = .ok (.aload_n 0, 1) := by decide +kernel
theorem d81_13 : decode prog_1_method_6_code 13 = .ok (.getfield 10, 3) := by decide +kernel
theorem d81_16 : decode prog_1_method_6_code 16 = .ok (.iload_n 1, 1) := by decide +kernel
theorem d81_17 : decode prog_1_method_6_code 17 = .ok (.invokestatic 62, 3) := by decide +kernel
theorem d81_20 : decode prog_1_method_6_code 20 = .ok (.iload_n 2, 1) := by decide +kernel
theorem d81_21 : decode prog_1_method_6_code 21 = .ok (.invokevirtual 84, 3) := by decide +kernel
theorem d81_24 : decode prog_1_method_6_code 24 = .ok (.invokevirtual 70, 3) := by decide +kernel
theorem d81_27 : decode prog_1_method_6_code 27 = .ok (.ireturn, 1) := by decide +kernel
theorem d82_0 : decode prog_1_method_7_code 0 = .ok (.aload_n 0, 1) := by decide +kernel
theorem d82_1 : decode prog_1_method_7_code 1 = .ok (.getfield 26, 3) := by decide +kernel
theorem d82_4 : decode prog_1_method_7_code 4 = .ok (.aload_n 0, 1) := by decide +kernel
theorem d82_5 : decode prog_1_method_7_code 5 = .ok (.getfield 10, 3) := by decide +kernel
theorem d82_8 : decode prog_1_method_7_code 8 = .ok (.invokevirtual 58, 3) := by decide +kernel
theorem d82_11 : decode prog_1_method_7_code 11 = .ok (.aload_n 0, 1) := by decide +kernel
theorem d82_12 : decode prog_1_method_7_code 12 = .ok (.aload_n 0, 1) := by decide +kernel
theorem d82_13 : decode prog_1_method_7_code 13 = .ok (.getfield 10, 3) := by decide +kernel
theorem d82_16 : decode prog_1_method_7_code 16 = .ok (.iload_n 1, 1) := by decide +kernel
theorem d82_17 : decode prog_1_method_7_code 17 = .ok (.iload_n 2, 1) := by decide +kernel
theorem d82_18 : decode prog_1_method_7_code 18 = .ok (.invokestatic 62, 3) := by decide +kernel
theorem d82_21 : decode prog_1_method_7_code 21 = .ok (.iload_n 3, 1) := by decide +kernel
theorem d82_22 : decode prog_1_method_7_code 22 = .ok (.invokevirtual 87, 3) := by decide +kernel
theorem d82_25 : decode prog_1_method_7_code 25 = .ok (.invokevirtual 70, 3) := by decide +kernel
theorem d82_28 : decode prog_1_method_7_code 28 = .ok (.ireturn, 1) := by decide +kernel
theorem d83_0 : decode prog_1_method_8_code 0 = .ok (.aload_n 0, 1) := by decide +kernel
theorem d83_1 : decode prog_1_method_8_code 1 = .ok (.getfield 26, 3) := by decide +kernel
theorem d83_4 : decode prog_1_method_8_code 4 = .ok (.aload_n 0, 1) := by decide +kernel
theorem d83_5 : decode prog_1_method_8_code 5 = .ok (.getfield 10, 3) := by decide +kernel
theorem d83_8 : decode prog_1_method_8_code 8 = .ok (.invokevirtual 58, 3) := by decide +kernel
theorem d83_11 : decode prog_1_method_8_code 11 = .ok (.aload_n 0, 1) := by decide +kernel
theorem d83_12 : decode prog_1_method_8_code 12 = .ok (.aload_n 0, 1) := by decide +kernel
theorem d83_13 : decode prog_1_method_8_code 13 = .ok (.getfield 10, 3) := by decide +kernel
theorem d83_16 : decode prog_1_method_8_code 16 = .ok (.iload_n 1, 1) := by decide +kernel
theorem d83_17 : decode prog_1_method_8_code 17 = .ok (.iload_n 2, 1) := by decide +kernel
theorem d83_18 : decode prog_1_method_8_code 18 = .ok (.invokevirtual 91, 3) := by decide +kernel
theorem d83_21 : decode prog_1_method_8_code 21 = .ok (.invokevirtual 70, 3) := by decide +kernel
theorem d83_24 : decode prog_1_method_8_code 24 = .ok (.ireturn, 1) := by decide +kernel
theorem d84_0 : decode prog_1_method_9_code 0 = .ok (.aload_n 0, 1) := by decide +kernel
theorem d84_1 : decode prog_1_method_9_code 1 = .ok (.getfield 26, 3) := by decide +kernel
theorem d84_4 : decode prog_1_method_9_code 4 = .ok (.aload_n 0, 1) := by decide +kernel
theorem d84_5 : decode prog_1_method_9_code 5 = .ok (.getfield 10, 3) := by decide +kernel
theorem d84_8 : decode prog_1_method_9_code 8 = .ok (.invokevirtual 58, 3) := by decide +kernel
theorem d84_11 : decode prog_1_method_9_code 11 = .ok (.aload_n 0, 1) := by decide +kernel
theorem d84_12 : decode prog_1_method_9_code 12 = .ok (.aload_n 0, 1) := by decide +kernel
theorem d84_13 : decode prog_1_method_9_code 13 = .ok (.getfield 10, 3) := by decide +kernel
theorem d84_16 : decode prog_1_method_9_code 16 = .ok (.iload_n 1, 1) := by decide +kernel
theorem d84_17 : decode prog_1_method_9_code 17 = .ok (.iload_n 2, 1) := by decide +kernel
theorem d84_18 : decode prog_1_method_9_code 18 = .ok (.invokevirtual 94, 3) := by decide +kernel
theorem d84_21 : decode prog_1_method_9_code 21 = .ok (.invokevirtual 70, 3) := by decide +kernel
theorem d84_24 : decode prog_1_method_9_code 24 = .ok (.ireturn, 1) := by decide +kernel
theorem d85_0 : decode prog_1_method_10_code 0 = .ok (.aload_n 0, 1) := by decide +kernel
theorem d85_1 : decode prog_1_method_10_code 1 = .ok (.getfield 26, 3) := by decide +kernel
theorem d85_4 : decode prog_1_method_10_code 4 = .ok (.aload_n 0, 1) := by decide +kernel
theorem d85_5 : decode prog_1_method_10_code 5 = .ok (.getfield 10, 3) := by decide +kernel
theorem d85_8 : decode prog_1_method_10_code 8 = .ok (.invokevirtual 58, 3) := by decide +kernel
theorem d85_11 : decode prog_1_method_10_code 11 = .ok (.aload_n 0, 1) := by decide +kernel
theorem d85_12 : decode prog_1_method_10_code 12 = .ok (.aload_n 0, 1) := by decide +kernel
theorem d85_13 : decode prog_1_method_10_code 13 = .ok (.getfield 10, 3) := by decide +kernel
theorem d85_16 : decode prog_1_method_10_code 16 = .ok (.iload_n 1, 1) := by decide +kernel
theorem d85_17 : decode prog_1_method_10_code 17 = .ok (.iload_n 2, 1) := by decide +kernel
theorem d85_18 : decode prog_1_method_10_code 18 = .ok (.invokevirtual 97, 3) := by decide +kernel
theorem d85_21 : decode prog_1_method_10_code 21 = .ok (.invokevirtual 70, 3) := by decide +kernel
theorem d85_24 : decode prog_1_method_10_code 24 = .ok (.ireturn, 1) := by decide +kernel
theorem d86_0 : decode prog_1_method_11_code 0 = .ok (.aload_n 0, 1) := by decide +kernel
theorem d86_1 : decode prog_1_method_11_code 1 = .ok (.getfield 26, 3) := by decide +kernel
theorem d86_4 : decode prog_1_method_11_code 4 = .ok (.aload_n 0, 1) := by decide +kernel
theorem d86_5 : decode prog_1_method_11_code 5 = .ok (.getfield 10, 3) := by decide +kernel
theorem d86_8 : decode prog_1_method_11_code 8 = .ok (.invokevirtual 58, 3) := by decide +kernel
theorem d86_11 : decode prog_1_method_11_code 11 = .ok (.aload_n 0, 1) := by decide +kernel
theorem d86_12 : decode prog_1_method_11_code 12 = .ok (.aload_n 0, 1) := by decide +kernel
theorem d86_13 : decode prog_1_method_11_code 13 = .ok (.getfield 10, 3) := by decide +kernel
theorem d86_16 : decode prog_1_method_11_code 16 = .ok (.iload_n 1, 1) := by decide +kernel
theorem d86_17 : decode prog_1_method_11_code 17 = .ok (.invokevirtual 100, 3) := by decide +kernel
theorem d86_20 : decode prog_1_method_11_code 20 = .ok (.invokevirtual 70, 3) := by decide +kernel
theorem d86_23 : decode prog_1_method_11_code 23 = .ok (.ireturn, 1) := by decide +kernel
theorem d87_0 : decode prog_1_method_12_code 0 = .ok (.aload_n 0, 1) := by decide +kernel
theorem d87_1 : decode prog_1_method_12_code 1 = .ok (.getfield 26, 3) := by decide +kernel
theorem d87_4 : decode prog_1_method_12_code 4 = .ok (.aload_n 0, 1) := by decide +kernel
theorem d87_5 : decode prog_1_method_12_code 5 = .ok (.getfield 10, 3) := by decide +kernel
theorem d87_8 : decode prog_1_method_12_code 8 = .ok (.invokevirtual 58, 3) := by decide +kernel
theorem d87_11 : decode prog_1_method_12_code 11 = .ok (.aload_n 0, 1) := by decide +kernel
theorem d87_12 : decode prog_1_method_12_code 12 = .ok (.aload_n 0, 1) := by decide +kernel
theorem d87_13 : decode prog_1_method_12_code 13 = .ok (.getfield 10, 3) := by decide +kernel
theorem d87_16 : decode prog_1_method_12_code 16 = .ok (.iload_n 1, 1) := by decide +kernel
theorem d87_17 : decode prog_1_method_12_code 17 = .ok (.iload_n 2, 1) := by decide +kernel
theorem d87_18 : decode prog_1_method_12_code 18 = .ok (.invokevirtual 103, 3) := by decide +kernel
theorem d87_21 : decode prog_1_method_12_code 21 = .ok (.invokevirtual 70, 3) := by decide +kernel
theorem d87_24 : decode prog_1_method_12_code 24 = .ok (.ireturn, 1) := by decide +kernel
theorem d88_0 : decode prog_1_method_15_code 0 = .ok (.aload_n 0, 1) := by decide +kernel
theorem d88_1 : decode prog_1_method_15_code 1 = .ok (.iload_n 1, 1) := by decide +kernel
theorem d88_2 : decode prog_1_method_15_code 2 = .ok (.invokevirtual 113, 3) := by decide +kernel
theorem d88_5 : decode prog_1_method_15_code 5 = .ok (.getfield 116, 3) := by decide +kernel
theorem d88_8 : decode prog_1_method_15_code 8 = .ok (.invokestatic 121, 3) := by decide +kernel
theorem d88_11 : decode prog_1_method_15_code 11 = .ok (.ireturn, 1) := by decide +kernel
theorem d89_0 : decode prog_1_method_57_code 0 = .ok (.aload_n 0, 1) := by decide +kernel
theorem d89_1 : decode prog_1_method_57_code 1 = .ok (.getfield 10, 3) := by decide +kernel
theorem d89_4 : decode prog_1_method_57_code 4 = .ok (.iload_n 1, 1) := by decide +kernel
theorem d89_5 : decode prog_1_method_57_code 5 = .ok (.invokevirtual 109, 3) := by decide +kernel
theorem d89_8 : decode prog_1_method_57_code 8 = .ok (.astore_n 2, 1) := by decide +kernel
theorem d89_9 : decode prog_1_method_57_code 9 = .ok (.aload_n 2, 1) := by decide +kernel
theorem d89_10 : decode prog_1_method_57_code 10 = .ok (.ifnonnull 11, 3) := by decide +kernel
theorem d89_13 : decode prog_1_method_57_code 13 = .ok (.new 134, 3) := by decide +kernel
theorem d89_16 : decode prog_1_method_57_code 16 = .ok (.dup, 1) := by decide +kernel
theorem d89_17 : decode prog_1_method_57_code 17 = .ok (.invokespecial 136, 3) := by decide +kernel
theorem d89_20 : decode prog_1_method_57_code 20 = .ok (.athrow, 1) := by decide +kernel
theorem d89_21 : decode prog_1_method_57_code 21 = .ok (.aload_n 2, 1) := by decide +kernel
theorem d89_22 : decode prog_1_method_57_code 22 = .ok (.areturn, 1) := by decide +kernel
theorem d90_0 : decode prog_1_method_60_code 0 = .ok (.bipush 97, 2) := by decide +kernel
theorem d90_2 : decode prog_1_method_60_code 2 = .ok (.iload_n 0, 1) := by decide +kernel
theorem d90_3 : decode prog_1_method_60_code 3 = .ok (.iadd, 1) := by decide +kernel
theorem d90_4 : decode prog_1_method_60_code 4 = .ok (.i2c, 1) := by decide +kernel
theorem d90_5 : decode prog_1_method_60_code 5 = .ok (.ireturn, 1) := by decide +kernel
theorem d91_0 : decode prog_1_method_16_code 0 = .ok (.aload_n 0, 1) := by decide +kernel
theorem d91_1 : decode prog_1_method_16_code 1 = .ok (.iload_n 1, 1) := by decide +kernel
theorem d91_2 : decode prog_1_method_16_code 2 = .ok (.invokevirtual 113, 3) := by decide +kernel
theorem d91_5 : decode prog_1_method_16_code 5 = .ok (.getfield 125, 3) := by decide +kernel
theorem d91_8 : decode prog_1_method_16_code 8 = .ok (.ireturn, 1) := by decide +kernel
theorem d92_0 : decode prog_1_method_17_code 0 = .ok (.aload_n 0, 1) := by decide +kernel
theorem d92_1 : decode prog_1_method_17_code 1 = .ok (.iload_n 1, 1) := by decide +kernel
theorem d92_2 : decode prog_1_method_17_code 2 = .ok (.invokevirtual 113, 3) := by decide +kernel
theorem d92_5 : decode prog_1_method_17_code 5 = .ok (.getfield 128, 3) := by decide +kernel
theorem d92_8 : decode prog_1_method_17_code 8 = .ok (.ireturn, 1) := by decide +kernel
theorem d93_0 : decode prog_1_method_18_code 0 = .ok (.aload_n 0, 1) := by decide +kernel
theorem d93_1 : decode prog_1_method_18_code 1 = .ok (.iload_n 1, 1) := by decide +kernel
theorem d93_2 : decode prog_1_method_18_code 2 = .ok (.invokevirtual 113, 3) := by decide +kernel
theorem d93_5 : decode prog_1_method_18_code 5 = .ok (.getfield 131, 3) := by decide +kernel
theorem d93_8 : decode prog_1_method_18_code 8 = .ok (.istore_n 2, 1) := by decide +kernel
theorem d93_9 : decode prog_1_method_18_code 9 = .ok (.iload_n 2, 1) := by decide +kernel
theorem d93_10 : decode prog_1_method_18_code 10 = .ok (.iconst (-1), 1) := by decide +kernel
theorem d93_11 : decode prog_1_method_18_code 11 = .ok (.if_icmp .ne 11, 3) := by decide +kernel
theorem d93_14 : decode prog_1_method_18_code 14 = .ok (.new 134, 3) := by decide +kernel
theorem d93_17 : decode prog_1_method_18_code 17 = .ok (.dup, 1) := by decide +kernel
theorem d93_18 : decode prog_1_method_18_code 18 = .ok (.invokespecial 136, 3) := by decide +kernel
theorem d93_21 : decode prog_1_method_18_code 21 = .ok (.athrow, 1) := by decide +kernel
theorem d93_22 : decode prog_1_method_18_code 22 = .ok (.iload_n 2, 1) := by decide +kernel
theorem d93_23 : decode prog_1_method_18_code 23 = .ok (.ireturn, 1) := by decide +kernel
theorem d94_0 : decode prog_1_method_19_code 0 = .ok (.iconst 0, 1) := by decide +kernel
theorem d94_1 : decode prog_1_method_19_code 1 = .ok (.istore_n 2, 1) := by decide +kernel
theorem d94_2 : decode prog_1_method_19_code 2 = .ok (.iload_n 2, 1) := by decide +kernel
theorem d94_3 : decode prog_1_method_19_code 3 = .ok (.aload_n 0, 1) := by decide +kernel
theorem d94_4 : decode prog_1_method_19_code 4 = .ok (.getfield 10, 3) := by decide +kernel
theorem d94_7 : decode prog_1_method_19_code 7 = .ok (.getfield 106, 3) := by decide +kernel
theorem d94_10 : decode prog_1_method_19_code 10 = .ok (.if_icmp .ge 36, 3) := by decide +kernel
theorem d94_13 : decode prog_1_method_19_code 13 = .ok (.aload_n 0, 1) := by decide +kernel
theorem d94_14 : decode prog_1_method_19_code 14 = .ok (.getfield 10, 3) := by decide +kernel
theorem d94_17 : decode prog_1_method_19_code 17 = .ok (.getfield 137, 3) := by decide +kernel
theorem d94_20 : decode prog_1_method_19_code 20 = .ok (.iload_n 2, 1) := by decide +kernel
theorem d94_21 : decode prog_1_method_19_code 21 = .ok (.aaload, 1) := by decide +kernel
theorem d94_22 : decode prog_1_method_19_code 22 = .ok (.astore_n 3, 1) := by decide +kernel
theorem d94_23 : decode prog_1_method_19_code 23 = .ok (.aload_n 0, 1) := by decide +kernel
theorem d94_24 : decode prog_1_method_19_code 24 = .ok (.getfield 10, 3) := by decide +kernel
theorem d94_27 : decode prog_1_method_19_code 27 = .ok (.aload_n 3, 1) := by decide +kernel
theorem d94_28 : decode prog_1_method_19_code 28 = .ok (.invokevirtual 141, 3) := by decide +kernel
theorem d94_31 : decode prog_1_method_19_code 31 = .ok (.iload_n 1, 1) := by decide +kernel
theorem d94_32 : decode prog_1_method_19_code 32 = .ok (.if_icmp .ne 8, 3) := by decide +kernel
theorem d94_35 : decode prog_1_method_19_code 35 = .ok (.aload_n 3, 1) := by decide +kernel
theorem d94_36 : decode prog_1_method_19_code 36 = .ok (.getfield 145, 3) := by decide +kernel
theorem d94_39 : decode prog_1_method_19_code 39 = .ok (.ireturn, 1) := by decide +kernel
theorem d94_40 : decode prog_1_method_19_code 40 = .ok (.iinc 2 1, 3) := by decide +kernel
theorem d94_43 : decode prog_1_method_19_code 43 = .ok (.goto (-41), 3) := by decide +kernel
theorem d94_46 : decode prog_1_method_19_code 46 = .ok (.new 134, 3) := by decide +kernel
theorem d94_49 : decode prog_1_method_19_code 49 = .ok (.dup, 1) := by decide +kernel
theorem d94_50 : decode prog_1_method_19_code 50 = .ok (.invokespecial 136, 3) := by decide +kernel
theorem d94_53 : decode prog_1_method_19_code 53 = .ok (.athrow, 1) := by decide +kernel
theorem d95_0 : decode prog_1_method_20_code 0 = .ok (.aload_n 0, 1) := by decide +kernel
theorem d95_1 : decode prog_1_method_20_code 1 = .ok (.getfield 10, 3) := by decide +kernel
theorem d95_4 : decode prog_1_method_20_code 4 = .ok (.getfield 148, 3) := by decide +kernel
theorem d95_7 : decode prog_1_method_20_code 7 = .ok (.iload_n 1, 1) := by decide +kernel
theorem d95_8 : decode prog_1_method_20_code 8 = .ok (.invokestatic 152, 3) := by decide +kernel
theorem d95_11 : decode prog_1_method_20_code 11 = .ok (.iaload, 1) := by decide +kernel
theorem d95_12 : decode prog_1_method_20_code 12 = .ok (.ireturn, 1) := by decide +kernel
theorem d96_0 : decode prog_1_method_58_code 0 = .ok (.iload_n 0, 1) := by decide +kernel
theorem d96_1 : decode prog_1_method_58_code 1 = .ok (.invokestatic 62, 3) := by decide +kernel
theorem d96_4 : decode prog_1_method_58_code 4 = .ok (.istore_n 1, 1) := by decide +kernel
theorem d96_5 : decode prog_1_method_58_code 5 = .ok (.iload_n 1, 1) := by decide +kernel
theorem d96_6 : decode prog_1_method_58_code 6 = .ok (.invokestatic 350, 3) := by decide +kernel
theorem d96_9 : decode prog_1_method_58_code 9 = .ok (.ifCond .ne 11, 3) := by decide +kernel
theorem d96_12 : decode prog_1_method_58_code 12 = .ok (.new 294, 3) := by decide +kernel
theorem d96_15 : decode prog_1_method_58_code 15 = .ok (.dup, 1) := by decide +kernel
theorem d96_16 : decode prog_1_method_58_code 16 = .ok (.invokespecial 296, 3) := by decide +kernel
theorem d96_19 : decode prog_1_method_58_code 19 = .ok (.athrow, 1) := by decide +kernel
theorem d96_20 : decode prog_1_method_58_code 20 = .ok (.iload_n 1, 1) := by decide +kernel
theorem d96_21 : decode prog_1_method_58_code 21 = .ok (.ireturn, 1) := by decide +kernel
theorem d97_0 : decode prog_1_method_21_code 0 = .ok (.aload_n 0, 1) := by decide +kernel
theorem d97_1 : decode prog_1_method_21_code 1 = .ok (.iload_n 1, 1) := by decide +kernel
theorem d97_2 : decode prog_1_method_21_code 2 = .ok (.invokevirtual 155, 3) := by decide +kernel
theorem d97_5 : decode prog_1_method_21_code 5 = .ok (.astore_n 3, 1) := by decide +kernel
theorem d97_6 : decode prog_1_method_21_code 6 = .ok (.aload_n 3, 1) := by decide +kernel
theorem d97_7 : decode prog_1_method_21_code 7 = .ok (.getfield 159, 3) := by decide +kernel
theorem d97_10 : decode prog_1_method_21_code 10 = .ok (.iload_n 2, 1) := by decide +kernel
theorem d97_11 : decode prog_1_method_21_code 11 = .ok (.invokestatic 152, 3) := by decide +kernel
theorem d97_14 : decode prog_1_method_21_code 14 = .ok (.iaload, 1) := by decide +kernel
theorem d97_15 : decode prog_1_method_21_code 15 = .ok (.ireturn, 1) := by decide +kernel
theorem d98_0 : decode prog_1_method_56_code 0 = .ok (.iload_n 1, 1) := by decide +kernel
theorem d98_1 : decode prog_1_method_56_code 1 = .ok (.invokestatic 347, 3) := by decide +kernel
theorem d98_4 : decode prog_1_method_56_code 4 = .ok (.ifCond .ne 11, 3) := by decide +kernel
theorem d98_7 : decode prog_1_method_56_code 7 = .ok (.new 171, 3) := by decide +kernel
theorem d98_10 : decode prog_1_method_56_code 10 = .ok (.dup, 1) := by decide +kernel
theorem d98_11 : decode prog_1_method_56_code 11 = .ok (.invokespecial 173, 3) := by decide +kernel
theorem d98_14 : decode prog_1_method_56_code 14 = .ok (.athrow, 1) := by decide +kernel
theorem d98_15 : decode prog_1_method_56_code 15 = .ok (.aload_n 0, 1) := by decide +kernel
theorem d98_16 : decode prog_1_method_56_code 16 = .ok (.getfield 10, 3) := by decide +kernel
theorem d98_19 : decode prog_1_method_56_code 19 = .ok (.getfield 203, 3) := by decide +kernel
theorem d98_22 : decode prog_1_method_56_code 22 = .ok (.iload_n 1, 1) := by decide +kernel
theorem d98_23 : decode prog_1_method_56_code 23 = .ok (.aaload, 1) := by decide +kernel
theorem d98_24 : decode prog_1_method_56_code 24 = .ok (.areturn, 1) := by decide +kernel
theorem d99_0 : decode prog_1_method_22_code 0 = .ok (.aload_n 0, 1) := by decide +kernel
theorem d99_1 : decode prog_1_method_22_code 1 = .ok (.iload_n 1, 1) := by decide +kernel
theorem d99_2 : decode prog_1_method_22_code 2 = .ok (.invokevirtual 155, 3) := by decide +kernel
theorem d99_5 : decode prog_1_method_22_code 5 = .ok (.pop, 1) := by decide +kernel
theorem d99_6 : decode prog_1_method_22_code 6 = .ok (.aload_n 0, 1) := by decide +kernel
theorem d99_7 : decode prog_1_method_22_code 7 = .ok (.getfield 10, 3) := by decide +kernel
theorem d99_10 : decode prog_1_method_22_code 10 = .ok (.iload_n 1, 1) := by decide +kernel
theorem d99_11 : decode prog_1_method_22_code 11 = .ok (.invokevirtual 164, 3) := by decide +kernel
theorem d99_14 : decode prog_1_method_22_code 14 = .ok (.ireturn, 1) := by decide +kernel
theorem d100_0 : decode prog_1_method_23_code 0 = .ok (.iload_n 1, 1) := by decide +kernel
theorem d100_1 : decode prog_1_method_23_code 1 = .ok (.invokestatic 167, 3) := by decide +kernel
theorem d100_4 : decode prog_1_method_23_code 4 = .ok (.ifCond .ne 11, 3) := by decide +kernel
theorem d100_7 : decode prog_1_method_23_code 7 = .ok (.new 171, 3) := by decide +kernel
theorem d100_10 : decode prog_1_method_23_code 10 = .ok (.dup, 1) := by decide +kernel
theorem d100_11 : decode prog_1_method_23_code 11 = .ok (.invokespecial 173, 3) := by decide +kernel
theorem d100_14 : decode prog_1_method_23_code 14 = .ok (.athrow, 1) := by decide +kernel
theorem d100_15 : decode prog_1_method_23_code 15 = .ok (.aload_n 0, 1) := by decide +kernel
theorem d100_16 : decode prog_1_method_23_code 16 = .ok (.getfield 10, 3) := by decide +kernel
theorem d100_19 : decode prog_1_method_23_code 19 = .ok (.getfield 174, 3) := by decide +kernel
theorem d100_22 : decode prog_1_method_23_code 22 = .ok (.iload_n 1, 1) := by decide +kernel
theorem d100_23 : decode prog_1_method_23_code 23 = .ok (.iaload, 1) := by decide +kernel
theorem d100_24 : decode prog_1_method_23_code 24 = .ok (.istore_n 2, 1) := by decide +kernel
theorem d100_25 : decode prog_1_method_23_code 25 = .ok (.iload_n 2, 1) := by decide +kernel
theorem d100_26 : decode prog_1_method_23_code 26 = .ok (.iconst (-1), 1) := by decide +kernel
theorem d100_27 : decode prog_1_method_23_code 27 = .ok (.if_icmp .ne 11, 3) := by decide +kernel
theorem d100_30 : decode prog_1_method_23_code 30 = .ok (.new 134, 3) := by decide +kernel
theorem d100_33 : decode prog_1_method_23_code 33 = .ok (.dup, 1) := by decide +kernel
theorem d100_34 : decode prog_1_method_23_code 34 = .ok (.invokespecial 136, 3) := by decide +kernel
theorem d100_37 : decode prog_1_method_23_code 37 = .ok (.athrow, 1) := by decide +kernel
theorem d100_38 : decode prog_1_method_23_code 38 = .ok (.iload_n 2, 1) := by decide +kernel
theorem d100_39 : decode prog_1_method_23_code 39 = .ok (.ireturn, 1) := by decide +kernel
theorem d101_0 : decode prog_1_method_24_code 0 = .ok (.aload_n 0, 1) := by decide +kernel
theorem d101_1 : decode prog_1_method_24_code 1 = .ok (.iload_n 1, 1) := by decide +kernel
theorem d101_2 : decode prog_1_method_24_code 2 = .ok (.invokevirtual 155, 3) := by decide +kernel
theorem d101_5 : decode prog_1_method_24_code 5 = .ok (.getfield 177, 3) := by decide +kernel
theorem d101_8 : decode prog_1_method_24_code 8 = .ok (.ireturn, 1) := by decide +kernel
theorem d102_0 : decode prog_1_method_25_code 0 = .ok (.aload_n 0, 1) := by decide +kernel
theorem d102_1 : decode prog_1_method_25_code 1 = .ok (.iload_n 1, 1) := by decide +kernel
theorem d102_2 : decode prog_1_method_25_code 2 = .ok (.invokevirtual 155, 3) := by decide +kernel
theorem d102_5 : decode prog_1_method_25_code 5 = .ok (.getfield 180, 3) := by decide +kernel
theorem d102_8 : decode prog_1_method_25_code 8 = .ok (.ireturn, 1) := by decide +kernel
theorem d103_0 : decode prog_1_method_26_code 0 = .ok (.aload_n 0, 1) := by decide +kernel
theorem d103_1 : decode prog_1_method_26_code 1 = .ok (.iload_n 1, 1) := by decide +kernel
theorem d103_2 : decode prog_1_method_26_code 2 = .ok (.invokevirtual 155, 3) := by decide +kernel
theorem d103_5 : decode prog_1_method_26_code 5 = .ok (.getfield 183, 3) := by decide +kernel
theorem d103_8 : decode prog_1_method_26_code 8 = .ok (.ireturn, 1) := by decide +kernel
theorem d104_0 : decode prog_1_method_27_code 0 = .ok (.aload_n 0, 1) := by decide +kernel
theorem d104_1 : decode prog_1_method_27_code 1 = .ok (.iload_n 1, 1) := by decide +kernel
theorem d104_2 : decode prog_1_method_27_code 2 = .ok (.invokevirtual 155, 3) := by decide +kernel
theorem d104_5 : decode prog_1_method_27_code 5 = .ok (.invokevirtual 186, 3) := by decide +kernel
theorem d104_8 : decode prog_1_method_27_code 8 = .ok (.ireturn, 1) := by decide +kernel
theorem d105_0 : decode prog_1_method_28_code 0 = .ok (.aload_n 0, 1) := by decide +kernel
theorem d105_1 : decode prog_1_method_28_code 1 = .ok (.iload_n 1, 1) := by decide +kernel
theorem d105_2 : decode prog_1_method_28_code 2 = .ok (.invokevirtual 155, 3) := by decide +kernel
theorem d105_5 : decode prog_1_method_28_code 5 = .ok (.pop, 1) := by decide +kernel
theorem d105_6 : decode prog_1_method_28_code 6 = .ok (.aload_n 0, 1) := by decide +kernel
theorem d105_7 : decode prog_1_method_28_code 7 = .ok (.getfield 10, 3) := by decide +kernel
theorem d105_10 : decode prog_1_method_28_code 10 = .ok (.iload_n 1, 1) := by decide +kernel
theorem d105_11 : decode prog_1_method_28_code 11 = .ok (.invokevirtual 190, 3) := by decide +kernel
theorem d105_14 : decode prog_1_method_28_code 14 = .ok (.ireturn, 1) := by decide +kernel
theorem d106_0 : decode prog_1_method_29_code 0 = .ok (.aload_n 0, 1) := by decide +kernel
theorem d106_1 : decode prog_1_method_29_code 1 = .ok (.iload_n 1, 1) := by decide +kernel
theorem d106_2 : decode prog_1_method_29_code 2 = .ok (.invokevirtual 155, 3) := by decide +kernel
theorem d106_5 : decode prog_1_method_29_code 5 = .ok (.pop, 1) := by decide +kernel
theorem d106_6 : decode prog_1_method_29_code 6 = .ok (.aload_n 0, 1) := by decide +kernel
theorem d106_7 : decode prog_1_method_29_code 7 = .ok (.iload_n 2, 1) := by decide +kernel
theorem d106_8 : decode prog_1_method_29_code 8 = .ok (.invokevirtual 113, 3) := by decide +kernel
theorem d106_11 : decode prog_1_method_29_code 11 = .ok (.astore_n 3, 1) := by decide +kernel
theorem d106_12 : decode prog_1_method_29_code 12 = .ok (.aload_n 0, 1) := by decide +kernel
theorem d106_13 : decode prog_1_method_29_code 13 = .ok (.getfield 10, 3) := by decide +kernel
theorem d106_16 : decode prog_1_method_29_code 16 = .ok (.iload_n 1, 1) := by decide +kernel
theorem d106_17 : decode prog_1_method_29_code 17 = .ok (.aload_n 3, 1) := by decide +kernel
theorem d106_18 : decode prog_1_method_29_code 18 = .ok (.invokevirtual 193, 3) := by decide +kernel
theorem d106_21 : decode prog_1_method_29_code 21 = .ok (.ifCond .eq 19, 3) := by decide +kernel
theorem d106_24 : decode prog_1_method_29_code 24 = .ok (.aload_n 0, 1) := by decide +kernel
theorem d106_25 : decode prog_1_method_29_code 25 = .ok (.getfield 10, 3) := by decide +kernel
theorem d106_28 : decode prog_1_method_29_code 28 = .ok (.iload_n 1, 1) := by decide +kernel
theorem d106_29 : decode prog_1_method_29_code 29 = .ok (.aload_n 3, 1) := by decide +kernel
theorem d106_30 : decode prog_1_method_29_code 30 = .ok (.invokevirtual 197, 3) := by decide +kernel
theorem d106_33 : decode prog_1_method_29_code 33 = .ok (.ifCond .eq 7, 3) := by decide +kernel
theorem d106_36 : decode prog_1_method_29_code 36 = .ok (.iconst 1, 1) := by decide +kernel
theorem d106_37 : decode prog_1_method_29_code 37 = .ok (.goto 4, 3) := by decide +kernel
theorem d106_40 : decode prog_1_method_29_code 40 = .ok (.iconst 0, 1) := by decide +kernel
theorem d106_41 : decode prog_1_method_29_code 41 = .ok (.ireturn, 1) := by decide +kernel
theorem d107_0 : decode prog_1_method_30_code 0 = .ok (.aload_n 0, 1) := by decide +kernel
theorem d107_1 : decode prog_1_method_30_code 1 = .ok (.iload_n 1, 1) := by decide +kernel
theorem d107_2 : decode prog_1_method_30_code 2 = .ok (.invokevirtual 155, 3) := by decide +kernel
theorem d107_5 : decode prog_1_method_30_code 5 = .ok (.astore_n 3, 1) := by decide +kernel
theorem d107_6 : decode prog_1_method_30_code 6 = .ok (.aload_n 3, 1) := by decide +kernel
theorem d107_7 : decode prog_1_method_30_code 7 = .ok (.aload_n 0, 1) := by decide +kernel
theorem d107_8 : decode prog_1_method_30_code 8 = .ok (.iload_n 2, 1) := by decide +kernel
theorem d107_9 : decode prog_1_method_30_code 9 = .ok (.invokevirtual 113, 3) := by decide +kernel
theorem d107_12 : decode prog_1_method_30_code 12 = .ok (.invokevirtual 200, 3) := by decide +kernel
theorem d107_15 : decode prog_1_method_30_code 15 = .ok (.ireturn, 1) := by decide +kernel
theorem d108_0 : decode prog_1_method_31_code 0 = .ok (.aload_n 0, 1) := by decide +kernel
theorem d108_1 : decode prog_1_method_31_code 1 = .ok (.iload_n 1, 1) := by decide +kernel
theorem d108_2 : decode prog_1_method_31_code 2 = .ok (.invokevirtual 113, 3) := by decide +kernel
theorem d108_5 : decode prog_1_method_31_code 5 = .ok (.astore_n 2, 1) := by decide +kernel
theorem d108_6 : decode prog_1_method_31_code 6 = .ok (.iconst 0, 1) := by decide +kernel
theorem d108_7 : decode prog_1_method_31_code 7 = .ok (.istore_n 3, 1) := by decide +kernel
theorem d108_8 : decode prog_1_method_31_code 8 = .ok (.iconst 1, 1) := by decide +kernel
theorem d108_9 : decode prog_1_method_31_code 9 = .ok (.istore 4, 2) := by decide +kernel
theorem d108_11 : decode prog_1_method_31_code 11 = .ok (.iload 4, 2) := by decide +kernel
theorem d108_13 : decode prog_1_method_31_code 13 = .ok (.iconst 3, 1) := by decide +kernel
theorem d108_14 : decode prog_1_method_31_code 14 = .ok (.if_icmp .ge 42, 3) := by decide +kernel
theorem d108_17 : decode prog_1_method_31_code 17 = .ok (.aload_n 0, 1) := by decide +kernel
theorem d108_18 : decode prog_1_method_31_code 18 = .ok (.getfield 10, 3) := by decide +kernel
theorem d108_21 : decode prog_1_method_31_code 21 = .ok (.getfield 203, 3) := by decide +kernel
theorem d108_24 : decode prog_1_method_31_code 24 = .ok (.iload 4, 2) := by decide +kernel
theorem d108_26 : decode prog_1_method_31_code 26 = .ok (.aaload, 1) := by decide +kernel
theorem d108_27 : decode prog_1_method_31_code 27 = .ok (.aload_n 2, 1) := by decide +kernel
theorem d108_28 : decode prog_1_method_31_code 28 = .ok (.invokevirtual 200, 3) := by decide +kernel
theorem d108_31 : decode prog_1_method_31_code 31 = .ok (.aload_n 0, 1) := by decide +kernel
theorem d108_32 : decode prog_1_method_31_code 32 = .ok (.getfield 10, 3) := by decide +kernel
theorem d108_35 : decode prog_1_method_31_code 35 = .ok (.getfield 203, 3) := by decide +kernel
theorem d108_38 : decode prog_1_method_31_code 38 = .ok (.iload_n 3, 1) := by decide +kernel
theorem d108_39 : decode prog_1_method_31_code 39 = .ok (.aaload, 1) := by decide +kernel
theorem d108_40 : decode prog_1_method_31_code 40 = .ok (.aload_n 2, 1) := by decide +kernel
theorem d108_41 : decode prog_1_method_31_code 41 = .ok (.invokevirtual 200, 3) := by decide +kernel
theorem d108_44 : decode prog_1_method_31_code 44 = .ok (.if_icmp .ge 6, 3) := by decide +kernel
theorem d108_47 : decode prog_1_method_31_code 47 = .ok (.iload 4, 2) := by decide +kernel
theorem d108_49 : decode prog_1_method_31_code 49 = .ok (.istore_n 3, 1) := by decide +kernel
theorem d108_50 : decode prog_1_method_31_code 50 = .ok (.iinc 4 1, 3) := by decide +kernel
theorem d108_53 : decode prog_1_method_31_code 53 = .ok (.goto (-42), 3) := by decide +kernel
theorem d108_56 : decode prog_1_method_31_code 56 = .ok (.iload_n 3, 1) := by decide +kernel
theorem d108_57 : decode prog_1_method_31_code 57 = .ok (.ireturn, 1) := by decide +kernel
theorem d109_0 : decode prog_1_method_32_code 0 = .ok (.aload_n 0, 1) := by decide +kernel
theorem d109_1 : decode prog_1_method_32_code 1 = .ok (.iload_n 1, 1) := by decide +kernel
theorem d109_2 : decode prog_1_method_32_code 2 = .ok (.invokevirtual 155, 3) := by decide +kernel
theorem d109_5 : decode prog_1_method_32_code 5 = .ok (.pop, 1) := by decide +kernel
theorem d109_6 : decode prog_1_method_32_code 6 = .ok (.aload_n 0, 1) := by decide +kernel
theorem d109_7 : decode prog_1_method_32_code 7 = .ok (.getfield 33, 3) := by decide +kernel
theorem d109_10 : decode prog_1_method_32_code 10 = .ok (.aload_n 0, 1) := by decide +kernel
theorem d109_11 : decode prog_1_method_32_code 11 = .ok (.getfield 10, 3) := by decide +kernel
theorem d109_14 : decode prog_1_method_32_code 14 = .ok (.iload_n 1, 1) := by decide +kernel
theorem d109_15 : decode prog_1_method_32_code 15 = .ok (.invokevirtual 207, 3) := by decide +kernel
theorem d109_18 : decode prog_1_method_32_code 18 = .ok (.ireturn, 1) := by decide +kernel
theorem d110_0 : decode prog_1_method_33_code 0 = .ok (.aload_n 0, 1) := by decide +kernel
theorem d110_1 : decode prog_1_method_33_code 1 = .ok (.iload_n 1, 1) := by decide +kernel
theorem d110_2 : decode prog_1_method_33_code 2 = .ok (.invokevirtual 155, 3) := by decide +kernel
theorem d110_5 : decode prog_1_method_33_code 5 = .ok (.pop, 1) := by decide +kernel
theorem d110_6 : decode prog_1_method_33_code 6 = .ok (.aload_n 0, 1) := by decide +kernel
theorem d110_7 : decode prog_1_method_33_code 7 = .ok (.getfield 33, 3) := by decide +kernel
theorem d110_10 : decode prog_1_method_33_code 10 = .ok (.aload_n 0, 1) := by decide +kernel
theorem d110_11 : decode prog_1_method_33_code 11 = .ok (.getfield 10, 3) := by decide +kernel
theorem d110_14 : decode prog_1_method_33_code 14 = .ok (.iload_n 1, 1) := by decide +kernel
theorem d110_15 : decode prog_1_method_33_code 15 = .ok (.invokevirtual 211, 3) := by decide +kernel
theorem d110_18 : decode prog_1_method_33_code 18 = .ok (.ireturn, 1) := by decide +kernel
theorem d111_0 : decode prog_1_method_34_code 0 = .ok (.aload_n 0, 1) := by decide +kernel
theorem d111_1 : decode prog_1_method_34_code 1 = .ok (.iload_n 1, 1) := by decide +kernel
theorem d111_2 : decode prog_1_method_34_code 2 = .ok (.invokevirtual 155, 3) := by decide +kernel
theorem d111_5 : decode prog_1_method_34_code 5 = .ok (.pop, 1) := by decide +kernel
theorem d111_6 : decode prog_1_method_34_code 6 = .ok (.aload_n 0, 1) := by decide +kernel
theorem d111_7 : decode prog_1_method_34_code 7 = .ok (.getfield 33, 3) := by decide +kernel
theorem d111_10 : decode prog_1_method_34_code 10 = .ok (.aload_n 0, 1) := by decide +kernel
theorem d111_11 : decode prog_1_method_34_code 11 = .ok (.getfield 10, 3) := by decide +kernel
theorem d111_14 : decode prog_1_method_34_code 14 = .ok (.iload_n 1, 1) := by decide +kernel
theorem d111_15 : decode prog_1_method_34_code 15 = .ok (.invokevirtual 207, 3) := by decide +kernel
theorem d111_18 : decode prog_1_method_34_code 18 = .ok (.pop, 1) := by decide +kernel
theorem d111_19 : decode prog_1_method_34_code 19 = .ok (.iload_n 2, 1) := by decide +kernel
theorem d111_20 : decode prog_1_method_34_code 20 = .ok (.ifCond .lt 14, 3) := by decide +kernel
theorem d111_23 : decode prog_1_method_34_code 23 = .ok (.iload_n 2, 1) := by decide +kernel
theorem d111_24 : decode prog_1_method_34_code 24 = .ok (.aload_n 0, 1) := by decide +kernel
theorem d111_25 : decode prog_1_method_34_code 25 = .ok (.getfield 33, 3) := by decide +kernel
theorem d111_28 : decode prog_1_method_34_code 28 = .ok (.getfield 214, 3) := by decide +kernel
theorem d111_31 : decode prog_1_method_34_code 31 = .ok (.if_icmp .lt 11, 3) := by decide +kernel
theorem d111_34 : decode prog_1_method_34_code 34 = .ok (.new 134, 3) := by decide +kernel
theorem d111_37 : decode prog_1_method_34_code 37 = .ok (.dup, 1) := by decide +kernel
theorem d111_38 : decode prog_1_method_34_code 38 = .ok (.invokespecial 136, 3) := by decide +kernel
theorem d111_41 : decode prog_1_method_34_code 41 = .ok (.athrow, 1) := by decide +kernel
theorem d111_42 : decode prog_1_method_34_code 42 = .ok (.aload_n 0, 1) := by decide +kernel
theorem d111_43 : decode prog_1_method_34_code 43 = .ok (.getfield 33, 3) := by decide +kernel
theorem d111_46 : decode prog_1_method_34_code 46 = .ok (.getfield 217, 3) := by decide +kernel
theorem d111_49 : decode prog_1_method_34_code 49 = .ok (.iload_n 2, 1) := by decide +kernel
theorem d111_50 : decode prog_1_method_34_code 50 = .ok (.iaload, 1) := by decide +kernel
theorem d111_51 : decode prog_1_method_34_code 51 = .ok (.ireturn, 1) := by decide +kernel
theorem d112_0 : decode prog_1_method_35_code 0 = .ok (.aload_n 0, 1) := by decide +kernel
theorem d112_1 : decode prog_1_method_35_code 1 = .ok (.iload_n 1, 1) := by decide +kernel
theorem d112_2 : decode prog_1_method_35_code 2 = .ok (.invokevirtual 155, 3) := by decide +kernel
theorem d112_5 : decode prog_1_method_35_code 5 = .ok (.getfield 220, 3) := by decide +kernel
theorem d112_8 : decode prog_1_method_35_code 8 = .ok (.ireturn, 1) := by decide +kernel
theorem d113_0 : decode prog_1_method_39_code 0 = .ok (.aload_n 0, 1) := by decide +kernel
theorem d113_1 : decode prog_1_method_39_code 1 = .ok (.getfield 10, 3) := by decide +kernel
theorem d113_4 : decode prog_1_method_39_code 4 = .ok (.getfield 234, 3) := by decide +kernel
theorem d113_7 : decode prog_1_method_39_code 7 = .ok (.ifCond .ne 11, 3) := by decide +kernel
theorem d113_10 : decode prog_1_method_39_code 10 = .ok (.new 237, 3) := by decide +kernel
theorem d113_13 : decode prog_1_method_39_code 13 = .ok (.dup, 1) := by decide +kernel
theorem d113_14 : decode prog_1_method_39_code 14 = .ok (.invokespecial 239, 3) := by decide +kernel
theorem d113_17 : decode prog_1_method_39_code 17 = .ok (.athrow, 1) := by decide +kernel
theorem d113_18 : decode prog_1_method_39_code 18 = .ok (.aload_n 0, 1) := by decide +kernel
theorem d113_19 : decode prog_1_method_39_code 19 = .ok (.getfield 10, 3) := by decide +kernel
theorem d113_22 : decode prog_1_method_39_code 22 = .ok (.getfield 231, 3) := by decide +kernel
theorem d113_25 : decode prog_1_method_39_code 25 = .ok (.l2d, 1) := by decide +kernel
theorem d113_26 : decode prog_1_method_39_code 26 = .ok (.aload_n 0, 1) := by decide +kernel
theorem d113_27 : decode prog_1_method_39_code 27 = .ok (.getfield 10, 3) := by decide +kernel
theorem d113_30 : decode prog_1_method_39_code 30 = .ok (.getfield 234, 3) := by decide +kernel
theorem d113_33 : decode prog_1_method_39_code 33 = .ok (.i2d, 1) := by decide +kernel
theorem d113_34 : decode prog_1_method_39_code 34 = .ok (.ddiv, 1) := by decide +kernel
theorem d113_35 : decode prog_1_method_39_code 35 = .ok (.dreturn, 1) := by decide +kernel
theorem d114_0 : decode prog_1_method_41_code 0 = .ok (.iconst 0, 1) := by decide +kernel
theorem d114_1 : decode prog_1_method_41_code 1 = .ok (.istore_n 2, 1) := by decide +kernel
theorem d114_2 : decode prog_1_method_41_code 2 = .ok (.iload_n 2, 1) := by decide +kernel
theorem d114_3 : decode prog_1_method_41_code 3 = .ok (.iconst 3, 1) := by decide +kernel
theorem d114_4 : decode prog_1_method_41_code 4 = .ok (.if_icmp .ge 23, 3) := by decide +kernel
theorem d114_7 : decode prog_1_method_41_code 7 = .ok (.aload_n 0, 1) := by decide +kernel
theorem d114_8 : decode prog_1_method_41_code 8 = .ok (.getfield 10, 3) := by decide +kernel
theorem d114_11 : decode prog_1_method_41_code 11 = .ok (.iload_n 2, 1) := by decide +kernel
theorem d114_12 : decode prog_1_method_41_code 12 = .ok (.invokevirtual 241, 3) := by decide +kernel
theorem d114_15 : decode prog_1_method_41_code 15 = .ok (.iload_n 1, 1) := by decide +kernel
theorem d114_16 : decode prog_1_method_41_code 16 = .ok (.if_icmp .ne 5, 3) := by decide +kernel
theorem d114_19 : decode prog_1_method_41_code 19 = .ok (.iload_n 2, 1) := by decide +kernel
theorem d114_20 : decode prog_1_method_41_code 20 = .ok (.ireturn, 1) := by decide +kernel
theorem d114_21 : decode prog_1_method_41_code 21 = .ok (.iinc 2 1, 3) := by decide +kernel
theorem d114_24 : decode prog_1_method_41_code 24 = .ok (.goto (-22), 3) := by decide +kernel
theorem d114_27 : decode prog_1_method_41_code 27 = .ok (.new 134, 3) := by decide +kernel
theorem d114_30 : decode prog_1_method_41_code 30 = .ok (.dup, 1) := by decide +kernel
theorem d114_31 : decode prog_1_method_41_code 31 = .ok (.invokespecial 136, 3) := by decide +kernel
theorem d114_34 : decode prog_1_method_41_code 34 = .ok (.athrow, 1) := by decide +kernel
theorem d115_0 : decode prog_1_method_43_code 0 = .ok (.aload_n 0, 1) := by decide +kernel
theorem d115_1 : decode prog_1_method_43_code 1 = .ok (.iload_n 1, 1) := by decide +kernel
theorem d115_2 : decode prog_1_method_43_code 2 = .ok (.invokevirtual 155, 3) := by decide +kernel
theorem d115_5 : decode prog_1_method_43_code 5 = .ok (.astore_n 2, 1) := by decide +kernel
theorem d115_6 : decode prog_1_method_43_code 6 = .ok (.aload_n 0, 1) := by decide +kernel
theorem d115_7 : decode prog_1_method_43_code 7 = .ok (.getfield 47, 3) := by decide +kernel
theorem d115_10 : decode prog_1_method_43_code 10 = .ok (.iconst 0, 1) := by decide +kernel
theorem d115_11 : decode prog_1_method_43_code 11 = .ok (.invokevirtual 255, 3) := by decide +kernel
theorem d115_14 : decode prog_1_method_43_code 14 = .ok (.aload_n 0, 1) := by decide +kernel
theorem d115_15 : decode prog_1_method_43_code 15 = .ok (.getfield 47, 3) := by decide +kernel
theorem d115_18 : decode prog_1_method_43_code 18 = .ok (.iload_n 1, 1) := by decide +kernel
theorem d115_19 : decode prog_1_method_43_code 19 = .ok (.invokevirtual 259, 3) := by decide +kernel
theorem d115_22 : decode prog_1_method_43_code 22 = .ok (.bipush 64, 2) := by decide +kernel
theorem d115_24 : decode prog_1_method_43_code 24 = .ok (.invokevirtual 263, 3) := by decide +kernel
theorem d115_27 : decode prog_1_method_43_code 27 = .ok (.aload_n 2, 1) := by decide +kernel
theorem d115_28 : decode prog_1_method_43_code 28 = .ok (.getfield 177, 3) := by decide +kernel
theorem d115_31 : decode prog_1_method_43_code 31 = .ok (.invokevirtual 259, 3) := by decide +kernel
theorem d115_34 : decode prog_1_method_43_code 34 = .ok (.bipush 44, 2) := by decide +kernel
theorem d115_36 : decode prog_1_method_43_code 36 = .ok (.invokevirtual 263, 3) := by decide +kernel
theorem d115_39 : decode prog_1_method_43_code 39 = .ok (.aload_n 2, 1) := by decide +kernel
theorem d115_40 : decode prog_1_method_43_code 40 = .ok (.getfield 180, 3) := by decide +kernel
theorem d115_43 : decode prog_1_method_43_code 43 = .ok (.invokevirtual 259, 3) := by decide +kernel
theorem d115_46 : decode prog_1_method_43_code 46 = .ok (.pop, 1) := by decide +kernel
theorem d115_47 : decode prog_1_method_43_code 47 = .ok (.aload_n 0, 1) := by decide +kernel
theorem d115_48 : decode prog_1_method_43_code 48 = .ok (.getfield 47, 3) := by decide +kernel
theorem d115_51 : decode prog_1_method_43_code 51 = .ok (.bipush 43, 2) := by decide +kernel
theorem d115_53 : decode prog_1_method_43_code 53 = .ok (.invokevirtual 263, 3) := by decide +kernel
theorem d115_56 : decode prog_1_method_43_code 56 = .ok (.aload_n 2, 1) := by decide +kernel
theorem d115_57 : decode prog_1_method_43_code 57 = .ok (.getfield 183, 3) := by decide +kernel
theorem d115_60 : decode prog_1_method_43_code 60 = .ok (.invokevirtual 259, 3) := by decide +kernel
theorem d115_63 : decode prog_1_method_43_code 63 = .ok (.pop, 1) := by decide +kernel
theorem d115_64 : decode prog_1_method_43_code 64 = .ok (.iconst 0, 1) := by decide +kernel
theorem d115_65 : decode prog_1_method_43_code 65 = .ok (.istore_n 3, 1) := by decide +kernel
theorem d115_66 : decode prog_1_method_43_code 66 = .ok (.iload_n 3, 1) := by decide +kernel
theorem d115_67 : decode prog_1_method_43_code 67 = .ok (.bipush 6, 2) := by decide +kernel
theorem d115_69 : decode prog_1_method_43_code 69 = .ok (.if_icmp .ge 37, 3) := by decide +kernel
theorem d115_72 : decode prog_1_method_43_code 72 = .ok (.aload_n 0, 1) := by decide +kernel
theorem d115_73 : decode prog_1_method_43_code 73 = .ok (.getfield 10, 3) := by decide +kernel
theorem d115_76 : decode prog_1_method_43_code 76 = .ok (.getfield 174, 3) := by decide +kernel
theorem d115_79 : decode prog_1_method_43_code 79 = .ok (.iload_n 3, 1) := by decide +kernel
theorem d115_80 : decode prog_1_method_43_code 80 = .ok (.iaload, 1) := by decide +kernel
theorem d115_81 : decode prog_1_method_43_code 81 = .ok (.iload_n 1, 1) := by decide +kernel
theorem d115_82 : decode prog_1_method_43_code 82 = .ok (.if_icmp .ne 18, 3) := by decide +kernel
theorem d115_85 : decode prog_1_method_43_code 85 = .ok (.aload_n 0, 1) := by decide +kernel
theorem d115_86 : decode prog_1_method_43_code 86 = .ok (.getfield 47, 3) := by decide +kernel
theorem d115_89 : decode prog_1_method_43_code 89 = .ok (.ldc_w 266, 3) := by decide +kernel
theorem d115_92 : decode prog_1_method_43_code 92 = .ok (.invokevirtual 268, 3) := by decide +kernel
theorem d115_95 : decode prog_1_method_43_code 95 = .ok (.iload_n 3, 1) := by decide +kernel
theorem d115_96 : decode prog_1_method_43_code 96 = .ok (.invokevirtual 259, 3) := by decide +kernel
theorem d115_99 : decode prog_1_method_43_code 99 = .ok (.pop, 1) := by decide +kernel
theorem d115_100 : decode prog_1_method_43_code 100 = .ok (.iinc 3 1, 3) := by decide +kernel
theorem d115_103 : decode prog_1_method_43_code 103 = .ok (.goto (-37), 3) := by decide +kernel
theorem d115_106 : decode prog_1_method_43_code 106 = .ok (.iconst 0, 1) := by decide +kernel
theorem d115_107 : decode prog_1_method_43_code 107 = .ok (.istore_n 3, 1) := by decide +kernel
theorem d115_108 : decode prog_1_method_43_code 108 = .ok (.iload_n 3, 1) := by decide +kernel
theorem d115_109 : decode prog_1_method_43_code 109 = .ok (.iconst 4, 1) := by decide +kernel
theorem d115_110 : decode prog_1_method_43_code 110 = .ok (.if_icmp .ge 44, 3) := by decide +kernel
theorem d115_113 : decode prog_1_method_43_code 113 = .ok (.aload_n 2, 1) := by decide +kernel
theorem d115_114 : decode prog_1_method_43_code 114 = .ok (.getfield 159, 3) := by decide +kernel
theorem d115_117 : decode prog_1_method_43_code 117 = .ok (.iload_n 3, 1) := by decide +kernel
theorem d115_118 : decode prog_1_method_43_code 118 = .ok (.iaload, 1) := by decide +kernel
theorem d115_119 : decode prog_1_method_43_code 119 = .ok (.ifCond .le 29, 3) := by decide +kernel
theorem d115_122 : decode prog_1_method_43_code 122 = .ok (.aload_n 0, 1) := by decide +kernel
theorem d115_123 : decode prog_1_method_43_code 123 = .ok (.getfield 47, 3) := by decide +kernel
theorem d115_126 : decode prog_1_method_43_code 126 = .ok (.bipush 32, 2) := by decide +kernel
theorem d115_128 : decode prog_1_method_43_code 128 = .ok (.invokevirtual 263, 3) := by decide +kernel
theorem d115_131 : decode prog_1_method_43_code 131 = .ok (.iload_n 3, 1) := by decide +kernel
theorem d115_132 : decode prog_1_method_43_code 132 = .ok (.invokestatic 121, 3) := by decide +kernel
theorem d115_135 : decode prog_1_method_43_code 135 = .ok (.invokevirtual 263, 3) := by decide +kernel
theorem d115_138 : decode prog_1_method_43_code 138 = .ok (.aload_n 2, 1) := by decide +kernel
theorem d115_139 : decode prog_1_method_43_code 139 = .ok (.getfield 159, 3) := by decide +kernel
theorem d115_142 : decode prog_1_method_43_code 142 = .ok (.iload_n 3, 1) := by decide +kernel
theorem d115_143 : decode prog_1_method_43_code 143 = .ok (.iaload, 1) := by decide +kernel
theorem d115_144 : decode prog_1_method_43_code 144 = .ok (.invokevirtual 259, 3) := by decide +kernel
theorem d115_147 : decode prog_1_method_43_code 147 = .ok (.pop, 1) := by decide +kernel
theorem d115_148 : decode prog_1_method_43_code 148 = .ok (.iinc 3 1, 3) := by decide +kernel
theorem d115_151 : decode prog_1_method_43_code 151 = .ok (.goto (-43), 3) := by decide +kernel
theorem d115_154 : decode prog_1_method_43_code 154 = .ok (.aload_n 0, 1) := by decide +kernel
theorem d115_155 : decode prog_1_method_43_code 155 = .ok (.getfield 47, 3) := by decide +kernel
theorem d115_158 : decode prog_1_method_43_code 158 = .ok (.invokevirtual 271, 3) := by decide +kernel
theorem d115_161 : decode prog_1_method_43_code 161 = .ok (.ireturn, 1) := by decide +kernel
theorem d116_0 : decode prog_1_method_44_code 0 = .ok (.aload_n 0, 1) := by decide +kernel
theorem d116_1 : decode prog_1_method_44_code 1 = .ok (.iload_n 1, 1) := by decide +kernel
theorem d116_2 : decode prog_1_method_44_code 2 = .ok (.invokevirtual 155, 3) := by decide +kernel
theorem d116_5 : decode prog_1_method_44_code 5 = .ok (.pop, 1) := by decide +kernel
theorem d116_6 : decode prog_1_method_44_code 6 = .ok (.aload_n 0, 1) := by decide +kernel
theorem d116_7 : decode prog_1_method_44_code 7 = .ok (.getfield 33, 3) := by decide +kernel
theorem d116_10 : decode prog_1_method_44_code 10 = .ok (.aload_n 0, 1) := by decide +kernel
theorem d116_11 : decode prog_1_method_44_code 11 = .ok (.getfield 10, 3) := by decide +kernel
theorem d116_14 : decode prog_1_method_44_code 14 = .ok (.iload_n 1, 1) := by decide +kernel
theorem d116_15 : decode prog_1_method_44_code 15 = .ok (.invokevirtual 207, 3) := by decide +kernel
theorem d116_18 : decode prog_1_method_44_code 18 = .ok (.pop, 1) := by decide +kernel
theorem d116_19 : decode prog_1_method_44_code 19 = .ok (.aload_n 0, 1) := by decide +kernel
theorem d116_20 : decode prog_1_method_44_code 20 = .ok (.getfield 47, 3) := by decide +kernel
theorem d116_23 : decode prog_1_method_44_code 23 = .ok (.iconst 0, 1) := by decide +kernel
theorem d116_24 : decode prog_1_method_44_code 24 = .ok (.invokevirtual 255, 3) := by decide +kernel
theorem d116_27 : decode prog_1_method_44_code 27 = .ok (.iconst 0, 1) := by decide +kernel
theorem d116_28 : decode prog_1_method_44_code 28 = .ok (.istore_n 2, 1) := by decide +kernel
theorem d116_29 : decode prog_1_method_44_code 29 = .ok (.iload_n 2, 1) := by decide +kernel
theorem d116_30 : decode prog_1_method_44_code 30 = .ok (.aload_n 0, 1) := by decide +kernel
theorem d116_31 : decode prog_1_method_44_code 31 = .ok (.getfield 33, 3) := by decide +kernel
theorem d116_34 : decode prog_1_method_44_code 34 = .ok (.getfield 214, 3) := by decide +kernel
theorem d116_37 : decode prog_1_method_44_code 37 = .ok (.if_icmp .ge 57, 3) := by decide +kernel
theorem d116_40 : decode prog_1_method_44_code 40 = .ok (.iload_n 2, 1) := by decide +kernel
theorem d116_41 : decode prog_1_method_44_code 41 = .ok (.ifCond .le 13, 3) := by decide +kernel
theorem d116_44 : decode prog_1_method_44_code 44 = .ok (.aload_n 0, 1) := by decide +kernel
theorem d116_45 : decode prog_1_method_44_code 45 = .ok (.getfield 47, 3) := by decide +kernel
theorem d116_48 : decode prog_1_method_44_code 48 = .ok (.bipush 62, 2) := by decide +kernel
theorem d116_50 : decode prog_1_method_44_code 50 = .ok (.invokevirtual 263, 3) := by decide +kernel
theorem d116_53 : decode prog_1_method_44_code 53 = .ok (.pop, 1) := by decide +kernel
theorem d116_54 : decode prog_1_method_44_code 54 = .ok (.aload_n 0, 1) := by decide +kernel
theorem d116_55 : decode prog_1_method_44_code 55 = .ok (.getfield 47, 3) := by decide +kernel
theorem d116_58 : decode prog_1_method_44_code 58 = .ok (.aload_n 0, 1) := by decide +kernel
theorem d116_59 : decode prog_1_method_44_code 59 = .ok (.getfield 33, 3) := by decide +kernel
theorem d116_62 : decode prog_1_method_44_code 62 = .ok (.getfield 217, 3) := by decide +kernel
theorem d116_65 : decode prog_1_method_44_code 65 = .ok (.iload_n 2, 1) := by decide +kernel
theorem d116_66 : decode prog_1_method_44_code 66 = .ok (.iaload, 1) := by decide +kernel
theorem d116_67 : decode prog_1_method_44_code 67 = .ok (.invokevirtual 259, 3) := by decide +kernel
theorem d116_70 : decode prog_1_method_44_code 70 = .ok (.bipush 58, 2) := by decide +kernel
theorem d116_72 : decode prog_1_method_44_code 72 = .ok (.invokevirtual 263, 3) := by decide +kernel
theorem d116_75 : decode prog_1_method_44_code 75 = .ok (.aload_n 0, 1) := by decide +kernel
theorem d116_76 : decode prog_1_method_44_code 76 = .ok (.getfield 33, 3) := by decide +kernel
theorem d116_79 : decode prog_1_method_44_code 79 = .ok (.getfield 274, 3) := by decide +kernel
theorem d116_82 : decode prog_1_method_44_code 82 = .ok (.iload_n 2, 1) := by decide +kernel
theorem d116_83 : decode prog_1_method_44_code 83 = .ok (.iaload, 1) := by decide +kernel
theorem d116_84 : decode prog_1_method_44_code 84 = .ok (.invokevirtual 259, 3) := by decide +kernel
theorem d116_87 : decode prog_1_method_44_code 87 = .ok (.pop, 1) := by decide +kernel
theorem d116_88 : decode prog_1_method_44_code 88 = .ok (.iinc 2 1, 3) := by decide +kernel
theorem d116_91 : decode prog_1_method_44_code 91 = .ok (.goto (-62), 3) := by decide +kernel
theorem d116_94 : decode prog_1_method_44_code 94 = .ok (.aload_n 0, 1) := by decide +kernel
theorem d116_95 : decode prog_1_method_44_code 95 = .ok (.getfield 47, 3) := by decide +kernel
theorem d116_98 : decode prog_1_method_44_code 98 = .ok (.invokevirtual 271, 3) := by decide +kernel
theorem d116_101 : decode prog_1_method_44_code 101 = .ok (.ireturn, 1) := by decide +kernel
theorem d117_0 : decode prog_1_method_45_code 0 = .ok (.iload_n 1, 1) := by decide +kernel
theorem d117_1 : decode prog_1_method_45_code 1 = .ok (.ifCond .lt 14, 3) := by decide +kernel
theorem d117_4 : decode prog_1_method_45_code 4 = .ok (.iload_n 1, 1) := by decide +kernel
theorem d117_5 : decode prog_1_method_45_code 5 = .ok (.aload_n 0, 1) := by decide +kernel
theorem d117_6 : decode prog_1_method_45_code 6 = .ok (.getfield 47, 3) := by decide +kernel
theorem d117_9 : decode prog_1_method_45_code 9 = .ok (.invokevirtual 271, 3) := by decide +kernel
theorem d117_12 : decode prog_1_method_45_code 12 = .ok (.if_icmp .lt 11, 3) := by decide +kernel
theorem d117_15 : decode prog_1_method_45_code 15 = .ok (.new 171, 3) := by decide +kernel
theorem d117_18 : decode prog_1_method_45_code 18 = .ok (.dup, 1) := by decide +kernel
theorem d117_19 : decode prog_1_method_45_code 19 = .ok (.invokespecial 173, 3) := by decide +kernel
theorem d117_22 : decode prog_1_method_45_code 22 = .ok (.athrow, 1) := by decide +kernel
theorem d117_23 : decode prog_1_method_45_code 23 = .ok (.aload_n 0, 1) := by decide +kernel
theorem d117_24 : decode prog_1_method_45_code 24 = .ok (.getfield 47, 3) := by decide +kernel
theorem d117_27 : decode prog_1_method_45_code 27 = .ok (.iload_n 1, 1) := by decide +kernel
theorem d117_28 : decode prog_1_method_45_code 28 = .ok (.invokevirtual 277, 3) := by decide +kernel
theorem d117_31 : decode prog_1_method_45_code 31 = .ok (.ireturn, 1) := by decide +kernel
theorem d118_0 : decode prog_1_method_46_code 0 = .ok (.aload_n 0, 1) := by decide +kernel
theorem d118_1 : decode prog_1_method_46_code 1 = .ok (.getfield 40, 3) := by decide +kernel
theorem d118_4 : decode prog_1_method_46_code 4 = .ok (.invokevirtual 280, 3) := by decide +kernel
theorem d118_7 : decode prog_1_method_46_code 7 = .ok (.ifCond .eq 11, 3) := by decide +kernel
theorem d118_10 : decode prog_1_method_46_code 10 = .ok (.new 283, 3) := by decide +kernel
theorem d118_13 : decode prog_1_method_46_code 13 = .ok (.dup, 1) := by decide +kernel
theorem d118_14 : decode prog_1_method_46_code 14 = .ok (.invokespecial 285, 3) := by decide +kernel
theorem d118_17 : decode prog_1_method_46_code 17 = .ok (.athrow, 1) := by decide +kernel
theorem d118_18 : decode prog_1_method_46_code 18 = .ok (.aload_n 0, 1) := by decide +kernel
theorem d118_19 : decode prog_1_method_46_code 19 = .ok (.getfield 40, 3) := by decide +kernel
theorem d118_22 : decode prog_1_method_46_code 22 = .ok (.iload_n 1, 1) := by decide +kernel
theorem d118_23 : decode prog_1_method_46_code 23 = .ok (.invokevirtual 286, 3) := by decide +kernel
theorem d118_26 : decode prog_1_method_46_code 26 = .ok (.ireturn, 1) := by decide +kernel
theorem d119_0 : decode prog_1_method_47_code 0 = .ok (.aload_n 0, 1) := by decide +kernel
theorem d119_1 : decode prog_1_method_47_code 1 = .ok (.getfield 40, 3) := by decide +kernel
theorem d119_4 : decode prog_1_method_47_code 4 = .ok (.invokevirtual 288, 3) := by decide +kernel
theorem d119_7 : decode prog_1_method_47_code 7 = .ok (.istore_n 1, 1) := by decide +kernel
theorem d119_8 : decode prog_1_method_47_code 8 = .ok (.aload_n 0, 1) := by decide +kernel
theorem d119_9 : decode prog_1_method_47_code 9 = .ok (.getfield 40, 3) := by decide +kernel
theorem d119_12 : decode prog_1_method_47_code 12 = .ok (.invokevirtual 291, 3) := by decide +kernel
theorem d119_15 : decode prog_1_method_47_code 15 = .ok (.iload_n 1, 1) := by decide +kernel
theorem d119_16 : decode prog_1_method_47_code 16 = .ok (.iconst (-1), 1) := by decide +kernel
theorem d119_17 : decode prog_1_method_47_code 17 = .ok (.if_icmp .eq 16, 3) := by decide +kernel
theorem d119_20 : decode prog_1_method_47_code 20 = .ok (.aload_n 0, 1) := by decide +kernel
theorem d119_21 : decode prog_1_method_47_code 21 = .ok (.iload_n 1, 1) := by decide +kernel
theorem d119_22 : decode prog_1_method_47_code 22 = .ok (.putfield 51, 3) := by decide +kernel
theorem d119_25 : decode prog_1_method_47_code 25 = .ok (.new 294, 3) := by decide +kernel
theorem d119_28 : decode prog_1_method_47_code 28 = .ok (.dup, 1) := by decide +kernel
theorem d119_29 : decode prog_1_method_47_code 29 = .ok (.invokespecial 296, 3) := by decide +kernel
theorem d119_32 : decode prog_1_method_47_code 32 = .ok (.athrow, 1) := by decide +kernel
theorem d119_33 : decode prog_1_method_47_code 33 = .ok (.aload_n 0, 1) := by decide +kernel
theorem d119_34 : decode prog_1_method_47_code 34 = .ok (.getfield 26, 3) := by decide +kernel
theorem d119_37 : decode prog_1_method_47_code 37 = .ok (.aload_n 0, 1) := by decide +kernel
theorem d119_38 : decode prog_1_method_47_code 38 = .ok (.getfield 10, 3) := by decide +kernel
theorem d119_41 : decode prog_1_method_47_code 41 = .ok (.invokevirtual 58, 3) := by decide +kernel
theorem d119_44 : decode prog_1_method_47_code 44 = .ok (.aload_n 0, 1) := by decide +kernel
theorem d119_45 : decode prog_1_method_47_code 45 = .ok (.invokevirtual 297, 3) := by decide +kernel
theorem d119_48 : decode prog_1_method_47_code 48 = .ok (.istore_n 2, 1) := by decide +kernel
theorem d119_49 : decode prog_1_method_47_code 49 = .ok (.iload_n 2, 1) := by decide +kernel
theorem d119_50 : decode prog_1_method_47_code 50 = .ok (.iconst (-1), 1) := by decide +kernel
theorem d119_51 : decode prog_1_method_47_code 51 = .ok (.if_icmp .eq 27, 3) := by decide +kernel
theorem d119_54 : decode prog_1_method_47_code 54 = .ok (.aload_n 0, 1) := by decide +kernel
theorem d119_55 : decode prog_1_method_47_code 55 = .ok (.getfield 26, 3) := by decide +kernel
theorem d119_58 : decode prog_1_method_47_code 58 = .ok (.aload_n 0, 1) := by decide +kernel
theorem d119_59 : decode prog_1_method_47_code 59 = .ok (.getfield 10, 3) := by decide +kernel
theorem d119_62 : decode prog_1_method_47_code 62 = .ok (.invokevirtual 300, 3) := by decide +kernel
theorem d119_65 : decode prog_1_method_47_code 65 = .ok (.aload_n 0, 1) := by decide +kernel
theorem d119_66 : decode prog_1_method_47_code 66 = .ok (.iload_n 2, 1) := by decide +kernel
theorem d119_67 : decode prog_1_method_47_code 67 = .ok (.putfield 55, 3) := by decide +kernel
theorem d119_70 : decode prog_1_method_47_code 70 = .ok (.new 303, 3) := by decide +kernel
theorem d119_73 : decode prog_1_method_47_code 73 = .ok (.dup, 1) := by decide +kernel
theorem d119_74 : decode prog_1_method_47_code 74 = .ok (.invokespecial 305, 3) := by decide +kernel
theorem d119_77 : decode prog_1_method_47_code 77 = .ok (.athrow, 1) := by decide +kernel
theorem d119_78 : decode prog_1_method_47_code 78 = .ok (.aload_n 0, 1) := by decide +kernel
theorem d119_79 : decode prog_1_method_47_code 79 = .ok (.getfield 26, 3) := by decide +kernel
theorem d119_82 : decode prog_1_method_47_code 82 = .ok (.invokevirtual 306, 3) := by decide +kernel
theorem d119_85 : decode prog_1_method_47_code 85 = .ok (.aload_n 0, 1) := by decide +kernel
theorem d119_86 : decode prog_1_method_47_code 86 = .ok (.getfield 40, 3) := by decide +kernel
theorem d119_89 : decode prog_1_method_47_code 89 = .ok (.getfield 309, 3) := by decide +kernel
theorem d119_92 : decode prog_1_method_47_code 92 = .ok (.ireturn, 1) := by decide +kernel
theorem d120_0 : decode prog_1_method_54_code 0 = .ok (.iconst 0, 1) := by decide +kernel
theorem d120_1 : decode prog_1_method_54_code 1 = .ok (.istore_n 1, 1) := by decide +kernel
theorem d120_2 : decode prog_1_method_54_code 2 = .ok (.iload_n 1, 1) := by decide +kernel
theorem d120_3 : decode prog_1_method_54_code 3 = .ok (.aload_n 0, 1) := by decide +kernel
theorem d120_4 : decode prog_1_method_54_code 4 = .ok (.getfield 40, 3) := by decide +kernel
theorem d120_7 : decode prog_1_method_54_code 7 = .ok (.getfield 309, 3) := by decide +kernel
theorem d120_10 : decode prog_1_method_54_code 10 = .ok (.if_icmp .ge 27, 3) := by decide +kernel
theorem d120_13 : decode prog_1_method_54_code 13 = .ok (.aload_n 0, 1) := by decide +kernel
theorem d120_14 : decode prog_1_method_54_code 14 = .ok (.aload_n 0, 1) := by decide +kernel
theorem d120_15 : decode prog_1_method_54_code 15 = .ok (.getfield 40, 3) := by decide +kernel
theorem d120_18 : decode prog_1_method_54_code 18 = .ok (.getfield 320, 3) := by decide +kernel
theorem d120_21 : decode prog_1_method_54_code 21 = .ok (.iload_n 1, 1) := by decide +kernel
theorem d120_22 : decode prog_1_method_54_code 22 = .ok (.aaload, 1) := by decide +kernel
theorem d120_23 : decode prog_1_method_54_code 23 = .ok (.invokevirtual 324, 3) := by decide +kernel
theorem d120_26 : decode prog_1_method_54_code 26 = .ok (.ifCond .ge 5, 3) := by decide +kernel
theorem d120_29 : decode prog_1_method_54_code 29 = .ok (.iload_n 1, 1) := by decide +kernel
theorem d120_30 : decode prog_1_method_54_code 30 = .ok (.ireturn, 1) := by decide +kernel
theorem d120_31 : decode prog_1_method_54_code 31 = .ok (.iinc 1 1, 3) := by decide +kernel
theorem d120_34 : decode prog_1_method_54_code 34 = .ok (.goto (-32), 3) := by decide +kernel
theorem d120_37 : decode prog_1_method_54_code 37 = .ok (.iconst (-1), 1) := by decide +kernel
theorem d120_38 : decode prog_1_method_54_code 38 = .ok (.ireturn, 1) := by decide +kernel
theorem d121_0 : decode prog_1_method_55_code 0 = .ok (.aload_n 1, 1) := by decide +kernel
theorem d121_1 : decode prog_1_method_55_code 1 = .ok (.getfield 328, 3) := by decide +kernel
theorem d121_4 : decode prog_1_method_55_code 4 = .ok (.astore_n 2, 1) := by decide +kernel
theorem d121_5 : decode prog_1_method_55_code 5 = .ok (.getstatic 333, 3) := by decide +kernel
theorem d121_8 : decode prog_1_method_55_code 8 = .ok (.aload_n 1, 1) := by decide +kernel
theorem d121_9 : decode prog_1_method_55_code 9 = .ok (.getfield 338, 3) := by decide +kernel
theorem d121_12 : decode prog_1_method_55_code 12 = .ok (.invokevirtual 342, 3) := by decide +kernel
theorem d121_15 : decode prog_1_method_55_code 15 = .ok (.iaload, 1) := by decide +kernel
theorem d121_16 : decode prog_1_method_55_code 16 = .ok (.tableswitch 202 1 10 #[56, 82, 93, 107, 118, 132, 149, 163, 177, 191], 56) := by decide +kernel
theorem d121_72 : decode prog_1_method_55_code 72 = .ok (.aload_n 0, 1) := by decide +kernel
theorem d121_73 : decode prog_1_method_55_code 73 = .ok (.getfield 10, 3) := by decide +kernel
theorem d121_76 : decode prog_1_method_55_code 76 = .ok (.aload_n 2, 1) := by decide +kernel
theorem d121_77 : decode prog_1_method_55_code 77 = .ok (.iconst 0, 1) := by decide +kernel
theorem d121_78 : decode prog_1_method_55_code 78 = .ok (.iaload, 1) := by decide +kernel
theorem d121_79 : decode prog_1_method_55_code 79 = .ok (.aload_n 2, 1) := by decide +kernel
theorem d121_80 : decode prog_1_method_55_code 80 = .ok (.iconst 1, 1) := by decide +kernel
theorem d121_81 : decode prog_1_method_55_code 81 = .ok (.iaload, 1) := by decide +kernel
theorem d121_82 : decode prog_1_method_55_code 82 = .ok (.aload_n 2, 1) := by decide +kernel
theorem d121_83 : decode prog_1_method_55_code 83 = .ok (.iconst 2, 1) := by decide +kernel
theorem d121_84 : decode prog_1_method_55_code 84 = .ok (.iaload, 1) := by decide +kernel
theorem d121_85 : decode prog_1_method_55_code 85 = .ok (.aload_n 2, 1) := by decide +kernel
theorem d121_86 : decode prog_1_method_55_code 86 = .ok (.iconst 3, 1) := by decide +kernel
theorem d121_87 : decode prog_1_method_55_code 87 = .ok (.iaload, 1) := by decide +kernel
theorem d121_88 : decode prog_1_method_55_code 88 = .ok (.aload_n 2, 1) := by decide +kernel
theorem d121_89 : decode prog_1_method_55_code 89 = .ok (.iconst 4, 1) := by decide +kernel
theorem d121_90 : decode prog_1_method_55_code 90 = .ok (.iaload, 1) := by decide +kernel
theorem d121_91 : decode prog_1_method_55_code 91 = .ok (.aload_n 2, 1) := by decide +kernel
theorem d121_92 : decode prog_1_method_55_code 92 = .ok (.iconst 5, 1) := by decide +kernel
theorem d121_93 : decode prog_1_method_55_code 93 = .ok (.iaload, 1) := by decide +kernel
theorem d121_94 : decode prog_1_method_55_code 94 = .ok (.invokevirtual 66, 3) := by decide +kernel
theorem d121_97 : decode prog_1_method_55_code 97 = .ok (.ireturn, 1) := by decide +kernel
theorem d121_98 : decode prog_1_method_55_code 98 = .ok (.aload_n 0, 1) := by decide +kernel
theorem d121_99 : decode prog_1_method_55_code 99 = .ok (.getfield 10, 3) := by decide +kernel
theorem d121_102 : decode prog_1_method_55_code 102 = .ok (.aload_n 2, 1) := by decide +kernel
theorem d121_103 : decode prog_1_method_55_code 103 = .ok (.iconst 0, 1) := by decide +kernel
theorem d121_104 : decode prog_1_method_55_code 104 = .ok (.iaload, 1) := by decide +kernel
theorem d121_105 : decode prog_1_method_55_code 105 = .ok (.invokevirtual 74, 3) := by decide +kernel
theorem d121_108 : decode prog_1_method_55_code 108 = .ok (.ireturn, 1) := by decide +kernel
theorem d121_109 : decode prog_1_method_55_code 109 = .ok (.aload_n 0, 1) := by decide +kernel
theorem d121_110 : decode prog_1_method_55_code 110 = .ok (.getfield 10, 3) := by decide +kernel
theorem d121_113 : decode prog_1_method_55_code 113 = .ok (.aload_n 2, 1) := by decide +kernel
theorem d121_114 : decode prog_1_method_55_code 114 = .ok (.iconst 0, 1) := by decide +kernel
theorem d121_115 : decode prog_1_method_55_code 115 = .ok (.iaload, 1) := by decide +kernel
theorem d121_116 : decode prog_1_method_55_code 116 = .ok (.aload_n 2, 1) := by decide +kernel
theorem d121_117 : decode prog_1_method_55_code 117 = .ok (.iconst 1, 1) := by decide +kernel
theorem d121_118 : decode prog_1_method_55_code 118 = .ok (.iaload, 1) := by decide +kernel
theorem d121_119 : decode prog_1_method_55_code 119 = .ok (.invokevirtual 77, 3) := by decide +kernel
theorem d121_122 : decode prog_1_method_55_code 122 = .ok (.ireturn, 1) := by decide +kernel
theorem d121_123 : decode prog_1_method_55_code 123 = .ok (.aload_n 0, 1) := by decide +kernel
theorem d121_124 : decode prog_1_method_55_code 124 = .ok (.getfield 10, 3) := by decide +kernel
theorem d121_127 : decode prog_1_method_55_code 127 = .ok (.aload_n 2, 1) := by decide +kernel
theorem d121_128 : decode prog_1_method_55_code 128 = .ok (.iconst 0, 1) := by decide +kernel
theorem d121_129 : decode prog_1_method_55_code 129 = .ok (.iaload, 1) := by decide +kernel
theorem d121_130 : decode prog_1_method_55_code 130 = .ok (.invokevirtual 81, 3) := by decide +kernel
theorem d121_133 : decode prog_1_method_55_code 133 = .ok (.ireturn, 1) := by decide +kernel
theorem d121_134 : decode prog_1_method_55_code 134 = .ok (.aload_n 0, 1) := by decide +kernel
theorem d121_135 : decode prog_1_method_55_code 135 = .ok (.getfield 10, 3) := by decide +kernel
theorem d121_138 : decode prog_1_method_55_code 138 = .ok (.aload_n 2, 1) := by decide +kernel
theorem d121_139 : decode prog_1_method_55_code 139 = .ok (.iconst 0, 1) := by decide +kernel
theorem d121_140 : decode prog_1_method_55_code 140 = .ok (.iaload, 1) := by decide +kernel
theorem d121_141 : decode prog_1_method_55_code 141 = .ok (.aload_n 2, 1) := by decide +kernel
theorem d121_142 : decode prog_1_method_55_code 142 = .ok (.iconst 1, 1) := by decide +kernel
theorem d121_143 : decode prog_1_method_55_code 143 = .ok (.iaload, 1) := by decide +kernel
theorem d121_144 : decode prog_1_method_55_code 144 = .ok (.invokevirtual 84, 3) := by decide +kernel
theorem d121_147 : decode prog_1_method_55_code 147 = .ok (.ireturn, 1) := by decide +kernel
theorem d121_148 : decode prog_1_method_55_code 148 = .ok (.aload_n 0, 1) := by decide +kernel
theorem d121_149 : decode prog_1_method_55_code 149 = .ok (.getfield 10, 3) := by decide +kernel
theorem d121_152 : decode prog_1_method_55_code 152 = .ok (.aload_n 2, 1) := by decide +kernel
theorem d121_153 : decode prog_1_method_55_code 153 = .ok (.iconst 0, 1) := by decide +kernel
theorem d121_154 : decode prog_1_method_55_code 154 = .ok (.iaload, 1) := by decide +kernel
theorem d121_155 : decode prog_1_method_55_code 155 = .ok (.aload_n 2, 1) := by decide +kernel
theorem d121_156 : decode prog_1_method_55_code 156 = .ok (.iconst 1, 1) := by decide +kernel
theorem d121_157 : decode prog_1_method_55_code 157 = .ok (.iaload, 1) := by decide +kernel
theorem d121_158 : decode prog_1_method_55_code 158 = .ok (.aload_n 2, 1) := by decide +kernel
theorem d121_159 : decode prog_1_method_55_code 159 = .ok (.iconst 2, 1) := by decide +kernel
theorem d121_160 : decode prog_1_method_55_code 160 = .ok (.iaload, 1) := by decide +kernel
theorem d121_161 : decode prog_1_method_55_code 161 = .ok (.invokevirtual 87, 3) := by decide +kernel
theorem d121_164 : decode prog_1_method_55_code 164 = .ok (.ireturn, 1) := by decide +kernel
theorem d121_165 : decode prog_1_method_55_code 165 = .ok (.aload_n 0, 1) := by decide +kernel
theorem d121_166 : decode prog_1_method_55_code 166 = .ok (.getfield 10, 3) := by decide +kernel
theorem d121_169 : decode prog_1_method_55_code 169 = .ok (.aload_n 2, 1) := by decide +kernel
theorem d121_170 : decode prog_1_method_55_code 170 = .ok (.iconst 0, 1) := by decide +kernel
theorem d121_171 : decode prog_1_method_55_code 171 = .ok (.iaload, 1) := by decide +kernel
theorem d121_172 : decode prog_1_method_55_code 172 = .ok (.aload_n 2, 1) := by decide +kernel
theorem d121_173 : decode prog_1_method_55_code 173 = .ok (.iconst 1, 1) := by decide +kernel
theorem d121_174 : decode prog_1_method_55_code 174 = .ok (.iaload, 1) := by decide +kernel
theorem d121_175 : decode prog_1_method_55_code 175 = .ok (.invokevirtual 91, 3) := by decide +kernel
theorem d121_178 : decode prog_1_method_55_code 178 = .ok (.ireturn, 1) := by decide +kernel
theorem d121_179 : decode prog_1_method_55_code 179 = .ok (.aload_n 0, 1) := by decide +kernel
theorem d121_180 : decode prog_1_method_55_code 180 = .ok (.getfield 10, 3) := by decide +kernel
theorem d121_183 : decode prog_1_method_55_code 183 = .ok (.aload_n 2, 1) := by decide +kernel
theorem d121_184 : decode prog_1_method_55_code 184 = .ok (.iconst 0, 1) := by decide +kernel
theorem d121_185 : decode prog_1_method_55_code 185 = .ok (.iaload, 1) := by decide +kernel
theorem d121_186 : decode prog_1_method_55_code 186 = .ok (.aload_n 2, 1) := by decide +kernel
theorem d121_187 : decode prog_1_method_55_code 187 = .ok (.iconst 1, 1) := by decide +kernel
theorem d121_188 : decode prog_1_method_55_code 188 = .ok (.iaload, 1) := by decide +kernel
theorem d121_189 : decode prog_1_method_55_code 189 = .ok (.invokevirtual 94, 3) := by decide +kernel
theorem d121_192 : decode prog_1_method_55_code 192 = .ok (.ireturn, 1) := by decide +kernel
theorem d121_193 : decode prog_1_method_55_code 193 = .ok (.aload_n 0, 1) := by decide +kernel
theorem d121_194 : decode prog_1_method_55_code 194 = .ok (.getfield 10, 3) := by decide +kernel
theorem d121_197 : decode prog_1_method_55_code 197 = .ok (.aload_n 2, 1) := by decide +kernel
theorem d121_198 : decode prog_1_method_55_code 198 = .ok (.iconst 0, 1) := by decide +kernel
theorem d121_199 : decode prog_1_method_55_code 199 = .ok (.iaload, 1) := by decide +kernel
theorem d121_200 : decode prog_1_method_55_code 200 = .ok (.aload_n 2, 1) := by decide +kernel
theorem d121_201 : decode prog_1_method_55_code 201 = .ok (.iconst 1, 1) := by decide +kernel
theorem d121_202 : decode prog_1_method_55_code 202 = .ok (.iaload, 1) := by decide +kernel
theorem d121_203 : decode prog_1_method_55_code 203 = .ok (.invokevirtual 97, 3) := by decide +kernel
theorem d121_206 : decode prog_1_method_55_code 206 = .ok (.ireturn, 1) := by decide +kernel
theorem d121_207 : decode prog_1_method_55_code 207 = .ok (.aload_n 0, 1) := by decide +kernel
theorem d121_208 : decode prog_1_method_55_code 208 = .ok (.getfield 10, 3) := by decide +kernel
theorem d121_211 : decode prog_1_method_55_code 211 = .ok (.aload_n 2, 1) := by decide +kernel
theorem d121_212 : decode prog_1_method_55_code 212 = .ok (.iconst 0, 1) := by decide +kernel
theorem d121_213 : decode prog_1_method_55_code 213 = .ok (.iaload, 1) := by decide +kernel
theorem d121_214 : decode prog_1_method_55_code 214 = .ok (.invokevirtual 100, 3) := by decide +kernel
theorem d121_217 : decode prog_1_method_55_code 217 = .ok (.ireturn, 1) := by decide +kernel
theorem d121_218 : decode prog_1_method_55_code 218 = .ok (.aload_n 0, 1) := by decide +kernel
theorem d121_219 : decode prog_1_method_55_code 219 = .ok (.getfield 10, 3) := by decide +kernel
theorem d121_222 : decode prog_1_method_55_code 222 = .ok (.aload_n 2, 1) := by decide +kernel
theorem d121_223 : decode prog_1_method_55_code 223 = .ok (.iconst 0, 1) := by decide +kernel
theorem d121_224 : decode prog_1_method_55_code 224 = .ok (.iaload, 1) := by decide +kernel
theorem d121_225 : decode prog_1_method_55_code 225 = .ok (.aload_n 2, 1) := by decide +kernel
theorem d121_226 : decode prog_1_method_55_code 226 = .ok (.iconst 1, 1) := by decide +kernel
theorem d121_227 : decode prog_1_method_55_code 227 = .ok (.iaload, 1) := by decide +kernel
theorem d121_228 : decode prog_1_method_55_code 228 = .ok (.invokevirtual 103, 3) := by decide +kernel
theorem d121_231 : decode prog_1_method_55_code 231 = .ok (.ireturn, 1) := by decide +kernel
theorem d122_0 : decode prog_1_method_48_code 0 = .ok (.aload_n 0, 1) := by decide +kernel
theorem d122_1 : decode prog_1_method_48_code 1 = .ok (.getfield 51, 3) := by decide +kernel
theorem d122_4 : decode prog_1_method_48_code 4 = .ok (.iconst (-1), 1) := by decide +kernel
theorem d122_5 : decode prog_1_method_48_code 5 = .ok (.if_icmp .ne 11, 3) := by decide +kernel
theorem d122_8 : decode prog_1_method_48_code 8 = .ok (.new 134, 3) := by decide +kernel
theorem d122_11 : decode prog_1_method_48_code 11 = .ok (.dup, 1) := by decide +kernel
theorem d122_12 : decode prog_1_method_48_code 12 = .ok (.invokespecial 136, 3) := by decide +kernel
theorem d122_15 : decode prog_1_method_48_code 15 = .ok (.athrow, 1) := by decide +kernel
theorem d122_16 : decode prog_1_method_48_code 16 = .ok (.aload_n 0, 1) := by decide +kernel
theorem d122_17 : decode prog_1_method_48_code 17 = .ok (.getfield 51, 3) := by decide +kernel
theorem d122_20 : decode prog_1_method_48_code 20 = .ok (.ireturn, 1) := by decide +kernel
theorem d123_0 : decode prog_1_method_49_code 0 = .ok (.aload_n 0, 1) := by decide +kernel
theorem d123_1 : decode prog_1_method_49_code 1 = .ok (.getfield 55, 3) := by decide +kernel
theorem d123_4 : decode prog_1_method_49_code 4 = .ok (.iconst (-1), 1) := by decide +kernel
theorem d123_5 : decode prog_1_method_49_code 5 = .ok (.if_icmp .ne 11, 3) := by decide +kernel
theorem d123_8 : decode prog_1_method_49_code 8 = .ok (.new 134, 3) := by decide +kernel
theorem d123_11 : decode prog_1_method_49_code 11 = .ok (.dup, 1) := by decide +kernel
theorem d123_12 : decode prog_1_method_49_code 12 = .ok (.invokespecial 136, 3) := by decide +kernel
theorem d123_15 : decode prog_1_method_49_code 15 = .ok (.athrow, 1) := by decide +kernel
theorem d123_16 : decode prog_1_method_49_code 16 = .ok (.aload_n 0, 1) := by decide +kernel
theorem d123_17 : decode prog_1_method_49_code 17 = .ok (.getfield 55, 3) := by decide +kernel
theorem d123_20 : decode prog_1_method_49_code 20 = .ok (.ireturn, 1) := by decide +kernel
theorem d124_0 : decode prog_1_method_50_code 0 = .ok (.aload_n 0, 1) := by decide +kernel
theorem d124_1 : decode prog_1_method_50_code 1 = .ok (.getfield 26, 3) := by decide +kernel
theorem d124_4 : decode prog_1_method_50_code 4 = .ok (.getfield 310, 3) := by decide +kernel
theorem d124_7 : decode prog_1_method_50_code 7 = .ok (.ifCond .ne 11, 3) := by decide +kernel
theorem d124_10 : decode prog_1_method_50_code 10 = .ok (.new 283, 3) := by decide +kernel
theorem d124_13 : decode prog_1_method_50_code 13 = .ok (.dup, 1) := by decide +kernel
theorem d124_14 : decode prog_1_method_50_code 14 = .ok (.invokespecial 285, 3) := by decide +kernel
theorem d124_17 : decode prog_1_method_50_code 17 = .ok (.athrow, 1) := by decide +kernel
theorem d124_18 : decode prog_1_method_50_code 18 = .ok (.aload_n 0, 1) := by decide +kernel
theorem d124_19 : decode prog_1_method_50_code 19 = .ok (.getfield 26, 3) := by decide +kernel
theorem d124_22 : decode prog_1_method_50_code 22 = .ok (.aload_n 0, 1) := by decide +kernel
theorem d124_23 : decode prog_1_method_50_code 23 = .ok (.getfield 10, 3) := by decide +kernel
theorem d124_26 : decode prog_1_method_50_code 26 = .ok (.invokevirtual 311, 3) := by decide +kernel
theorem d124_29 : decode prog_1_method_50_code 29 = .ok (.aload_n 0, 1) := by decide +kernel
theorem d124_30 : decode prog_1_method_50_code 30 = .ok (.getfield 26, 3) := by decide +kernel
theorem d124_33 : decode prog_1_method_50_code 33 = .ok (.getfield 310, 3) := by decide +kernel
theorem d124_36 : decode prog_1_method_50_code 36 = .ok (.ireturn, 1) := by decide +kernel
theorem d125_0 : decode prog_1_method_52_code 0 = .ok (.aload_n 0, 1) := by decide +kernel
theorem d125_1 : decode prog_1_method_52_code 1 = .ok (.getfield 19, 3) := by decide +kernel
theorem d125_4 : decode prog_1_method_52_code 4 = .ok (.ifCond .ne 11, 3) := by decide +kernel
theorem d125_7 : decode prog_1_method_52_code 7 = .ok (.new 283, 3) := by decide +kernel
theorem d125_10 : decode prog_1_method_52_code 10 = .ok (.dup, 1) := by decide +kernel
theorem d125_11 : decode prog_1_method_52_code 11 = .ok (.invokespecial 285, 3) := by decide +kernel
theorem d125_14 : decode prog_1_method_52_code 14 = .ok (.athrow, 1) := by decide +kernel
theorem d125_15 : decode prog_1_method_52_code 15 = .ok (.aload_n 0, 1) := by decide +kernel
theorem d125_16 : decode prog_1_method_52_code 16 = .ok (.getfield 10, 3) := by decide +kernel
theorem d125_19 : decode prog_1_method_52_code 19 = .ok (.aload_n 0, 1) := by decide +kernel
theorem d125_20 : decode prog_1_method_52_code 20 = .ok (.getfield 16, 3) := by decide +kernel
theorem d125_23 : decode prog_1_method_52_code 23 = .ok (.invokevirtual 314, 3) := by decide +kernel
theorem d125_26 : decode prog_1_method_52_code 26 = .ok (.aload_n 0, 1) := by decide +kernel
theorem d125_27 : decode prog_1_method_52_code 27 = .ok (.getfield 26, 3) := by decide +kernel
theorem d125_30 : decode prog_1_method_52_code 30 = .ok (.invokevirtual 317, 3) := by decide +kernel
theorem d125_33 : decode prog_1_method_52_code 33 = .ok (.aload_n 0, 1) := by decide +kernel
theorem d125_34 : decode prog_1_method_52_code 34 = .ok (.getfield 10, 3) := by decide +kernel
theorem d125_37 : decode prog_1_method_52_code 37 = .ok (.getfield 106, 3) := by decide +kernel
theorem d125_40 : decode prog_1_method_52_code 40 = .ok (.ireturn, 1) := by decide +kernel
theorem d126_0 : decode prog_12_method_1_code 0 = .ok (.aload_n 0, 1) := by decide +kernel
theorem d126_1 : decode prog_12_method_1_code 1 = .ok (.invokespecial 1, 3) := by decide +kernel
theorem d126_4 : decode prog_12_method_1_code 4 = .ok (.aload_n 0, 1) := by decide +kernel
theorem d126_5 : decode prog_12_method_1_code 5 = .ok (.sipush 140, 3) := by decide +kernel
theorem d126_8 : decode prog_12_method_1_code 8 = .ok (.newarray .int, 2) := by decide +kernel
theorem d126_10 : decode prog_12_method_1_code 10 = .ok (.putfield 7, 3) := by decide +kernel
theorem d126_13 : decode prog_12_method_1_code 13 = .ok (.aload_n 0, 1) := by decide +kernel
theorem d126_14 : decode prog_12_method_1_code 14 = .ok (.sipush 140, 3) := by decide +kernel
theorem d126_17 : decode prog_12_method_1_code 17 = .ok (.newarray .int, 2) := by decide +kernel
theorem d126_19 : decode prog_12_method_1_code 19 = .ok (.putfield 13, 3) := by decide +kernel
theorem d126_22 : decode prog_12_method_1_code 22 = .ok (.aload_n 0, 1) := by decide +kernel
theorem d126_23 : decode prog_12_method_1_code 23 = .ok (.sipush 140, 3) := by decide +kernel
theorem d126_26 : decode prog_12_method_1_code 26 = .ok (.newarray .int, 2) := by decide +kernel
theorem d126_28 : decode prog_12_method_1_code 28 = .ok (.putfield 16, 3) := by decide +kernel
theorem d126_31 : decode prog_12_method_1_code 31 = .ok (.aload_n 0, 1) := by decide +kernel
theorem d126_32 : decode prog_12_method_1_code 32 = .ok (.sipush 1120, 3) := by decide +kernel
theorem d126_35 : decode prog_12_method_1_code 35 = .ok (.newarray .int, 2) := by decide +kernel
theorem d126_37 : decode prog_12_method_1_code 37 = .ok (.putfield 19, 3) := by decide +kernel
theorem d126_40 : decode prog_12_method_1_code 40 = .ok (.aload_n 0, 1) := by decide +kernel
theorem d126_41 : decode prog_12_method_1_code 41 = .ok (.bipush 6, 2) := by decide +kernel
theorem d126_43 : decode prog_12_method_1_code 43 = .ok (.newarray .int, 2) := by decide +kernel
theorem d126_45 : decode prog_12_method_1_code 45 = .ok (.putfield 22, 3) := by decide +kernel
theorem d126_48 : decode prog_12_method_1_code 48 = .ok (.aload_n 0, 1) := by decide +kernel
theorem d126_49 : decode prog_12_method_1_code 49 = .ok (.bipush 6, 2) := by decide +kernel
theorem d126_51 : decode prog_12_method_1_code 51 = .ok (.newarray .int, 2) := by decide +kernel
theorem d126_53 : decode prog_12_method_1_code 53 = .ok (.putfield 25, 3) := by decide +kernel
theorem d126_56 : decode prog_12_method_1_code 56 = .ok (.aload_n 0, 1) := by decide +kernel
theorem d126_57 : decode prog_12_method_1_code 57 = .ok (.iconst 0, 1) := by decide +kernel
theorem d126_58 : decode prog_12_method_1_code 58 = .ok (.putfield 28, 3) := by decide +kernel
theorem d126_61 : decode prog_12_method_1_code 61 = .ok (.aload_n 0, 1) := by decide +kernel
theorem d126_62 : decode prog_12_method_1_code 62 = .ok (.iconst 0, 1) := by decide +kernel
theorem d126_63 : decode prog_12_method_1_code 63 = .ok (.putfield 32, 3) := by decide +kernel
theorem d126_66 : decode prog_12_method_1_code 66 = .ok (.aload_n 0, 1) := by decide +kernel
theorem d126_67 : decode prog_12_method_1_code 67 = .ok (.iconst (-1), 1) := by decide +kernel
theorem d126_68 : decode prog_12_method_1_code 68 = .ok (.putfield 35, 3) := by decide +kernel
theorem d126_71 : decode prog_12_method_1_code 71 = .ok (.aload_n 0, 1) := by decide +kernel
theorem d126_72 : decode prog_12_method_1_code 72 = .ok (.iconst (-1), 1) := by decide +kernel
theorem d126_73 : decode prog_12_method_1_code 73 = .ok (.putfield 38, 3) := by decide +kernel
theorem d126_76 : decode prog_12_method_1_code 76 = .ok (.aload_n 0, 1) := by decide +kernel
theorem d126_77 : decode prog_12_method_1_code 77 = .ok (.iconst 0, 1) := by decide +kernel
theorem d126_78 : decode prog_12_method_1_code 78 = .ok (.putfield 41, 3) := by decide +kernel
theorem d126_81 : decode prog_12_method_1_code 81 = .ok (.aload_n 0, 1) := by decide +kernel
theorem d126_82 : decode prog_12_method_1_code 82 = .ok (.iconst 0, 1) := by decide +kernel
theorem d126_83 : decode prog_12_method_1_code 83 = .ok (.putfield 44, 3) := by decide +kernel
theorem d126_86 : decode prog_12_method_1_code 86 = .ok (.aload_n 0, 1) := by decide +kernel
theorem d126_87 : decode prog_12_method_1_code 87 = .ok (.iconst 0, 1) := by decide +kernel
theorem d126_88 : decode prog_12_method_1_code 88 = .ok (.putfield 47, 3) := by decide +kernel
theorem d126_91 : decode prog_12_method_1_code 91 = .ok (.aload_n 0, 1) := by decide +kernel
theorem d126_92 : decode prog_12_method_1_code 92 = .ok (.bipush 100, 2) := by decide +kernel
theorem d126_94 : decode prog_12_method_1_code 94 = .ok (.newarray .int, 2) := by decide +kernel
theorem d126_96 : decode prog_12_method_1_code 96 = .ok (.putfield 51, 3) := by decide +kernel
theorem d126_99 : decode prog_12_method_1_code 99 = .ok (.aload_n 0, 1) := by decide +kernel
theorem d126_100 : decode prog_12_method_1_code 100 = .ok (.iconst 0, 1) := by decide +kernel
theorem d126_101 : decode prog_12_method_1_code 101 = .ok (.putfield 54, 3) := by decide +kernel
theorem d126_104 : decode prog_12_method_1_code 104 = .ok (.aload_n 0, 1) := by decide +kernel
theorem d126_105 : decode prog_12_method_1_code 105 = .ok (.bipush 60, 2) := by decide +kernel
theorem d126_107 : decode prog_12_method_1_code 107 = .ok (.newarray .int, 2) := by decide +kernel
theorem d126_109 : decode prog_12_method_1_code 109 = .ok (.putfield 57, 3) := by decide +kernel
theorem d126_112 : decode prog_12_method_1_code 112 = .ok (.aload_n 0, 1) := by decide +kernel
theorem d126_113 : decode prog_12_method_1_code 113 = .ok (.bipush 32, 2) := by decide +kernel
theorem d126_115 : decode prog_12_method_1_code 115 = .ok (.newarray .int, 2) := by decide +kernel
theorem d126_117 : decode prog_12_method_1_code 117 = .ok (.putfield 60, 3) := by decide +kernel
theorem d126_120 : decode prog_12_method_1_code 120 = .ok (.aload_n 0, 1) := by decide +kernel
theorem d126_121 : decode prog_12_method_1_code 121 = .ok (.sipush 192, 3) := by decide +kernel
theorem d126_124 : decode prog_12_method_1_code 124 = .ok (.newarray .int, 2) := by decide +kernel
theorem d126_126 : decode prog_12_method_1_code 126 = .ok (.putfield 63, 3) := by decide +kernel
theorem d126_129 : decode prog_12_method_1_code 129 = .ok (.aload_n 0, 1) := by decide +kernel
theorem d126_130 : decode prog_12_method_1_code 130 = .ok (.iconst 0, 1) := by decide +kernel
theorem d126_131 : decode prog_12_method_1_code 131 = .ok (.putfield 66, 3) := by decide +kernel
theorem d126_134 : decode prog_12_method_1_code 134 = .ok (.aload_n 0, 1) := by decide +kernel
theorem d126_135 : decode prog_12_method_1_code 135 = .ok (.iconst 0, 1) := by decide +kernel
theorem d126_136 : decode prog_12_method_1_code 136 = .ok (.putfield 69, 3) := by decide +kernel
theorem d126_139 : decode prog_12_method_1_code 139 = .ok (.aload_n 0, 1) := by decide +kernel
theorem d126_140 : decode prog_12_method_1_code 140 = .ok (.iconst 0, 1) := by decide +kernel
theorem d126_141 : decode prog_12_method_1_code 141 = .ok (.putfield 72, 3) := by decide +kernel
theorem d126_144 : decode prog_12_method_1_code 144 = .ok (.aload_n 0, 1) := by decide +kernel
theorem d126_145 : decode prog_12_method_1_code 145 = .ok (.iconst 0, 1) := by decide +kernel
theorem d126_146 : decode prog_12_method_1_code 146 = .ok (.putfield 75, 3) := by decide +kernel
theorem d126_149 : decode prog_12_method_1_code 149 = .ok (.aload_n 0, 1) := by decide +kernel
theorem d126_150 : decode prog_12_method_1_code 150 = .ok (.iconst 0, 1) := by decide +kernel
theorem d126_151 : decode prog_12_method_1_code 151 = .ok (.putfield 78, 3) := by decide +kernel
theorem d126_154 : decode prog_12_method_1_code 154 = .ok (.return_, 1) := by decide +kernel
theorem d127_0 : decode prog_12_method_2_code 0 = .ok (.aload_n 0, 1) := by decide +kernel
theorem d127_1 : decode prog_12_method_2_code 1 = .ok (.getfield 28, 3) := by decide +kernel
theorem d127_4 : decode prog_12_method_2_code 4 = .ok (.ireturn, 1) := by decide +kernel
theorem d128_0 : decode prog_12_method_17_code 0 = .ok (.aload_n 0, 1) := by decide +kernel
theorem d128_1 : decode prog_12_method_17_code 1 = .ok (.invokevirtual 100, 3) := by decide +kernel
theorem d128_4 : decode prog_12_method_17_code 4 = .ok (.aload_n 0, 1) := by decide +kernel
theorem d128_5 : decode prog_12_method_17_code 5 = .ok (.iload_n 1, 1) := by decide +kernel
theorem d128_6 : decode prog_12_method_17_code 6 = .ok (.iload_n 2, 1) := by decide +kernel
theorem d128_7 : decode prog_12_method_17_code 7 = .ok (.iload_n 3, 1) := by decide +kernel
theorem d128_8 : decode prog_12_method_17_code 8 = .ok (.iload 4, 2) := by decide +kernel
theorem d128_10 : decode prog_12_method_17_code 10 = .ok (.iload 5, 2) := by decide +kernel
theorem d128_12 : decode prog_12_method_17_code 12 = .ok (.iload 6, 2) := by decide +kernel
theorem d128_14 : decode prog_12_method_17_code 14 = .ok (.invokevirtual 103, 3) := by decide +kernel
theorem d128_17 : decode prog_12_method_17_code 17 = .ok (.istore 7, 2) := by decide +kernel
theorem d128_19 : decode prog_12_method_17_code 19 = .ok (.iload 7, 2) := by decide +kernel
theorem d128_21 : decode prog_12_method_17_code 21 = .ok (.ifCond .le 12, 3) := by decide +kernel
theorem d128_24 : decode prog_12_method_17_code 24 = .ok (.aload_n 0, 1) := by decide +kernel
theorem d128_25 : decode prog_12_method_17_code 25 = .ok (.iload 7, 2) := by decide +kernel
theorem d128_27 : decode prog_12_method_17_code 27 = .ok (.invokevirtual 107, 3) := by decide +kernel
theorem d128_30 : decode prog_12_method_17_code 30 = .ok (.goto 20, 3) := by decide +kernel
theorem d128_33 : decode prog_12_method_17_code 33 = .ok (.aload_n 0, 1) := by decide +kernel
theorem d128_34 : decode prog_12_method_17_code 34 = .ok (.aload_n 0, 1) := by decide +kernel
theorem d128_35 : decode prog_12_method_17_code 35 = .ok (.iload_n 1, 1) := by decide +kernel
theorem d128_36 : decode prog_12_method_17_code 36 = .ok (.iload_n 2, 1) := by decide +kernel
theorem d128_37 : decode prog_12_method_17_code 37 = .ok (.iload_n 3, 1) := by decide +kernel
theorem d128_38 : decode prog_12_method_17_code 38 = .ok (.iload 4, 2) := by decide +kernel
theorem d128_40 : decode prog_12_method_17_code 40 = .ok (.iload 5, 2) := by decide +kernel
theorem d128_42 : decode prog_12_method_17_code 42 = .ok (.iload 6, 2) := by decide +kernel
theorem d128_44 : decode prog_12_method_17_code 44 = .ok (.invokevirtual 111, 3) := by decide +kernel
theorem d128_47 : decode prog_12_method_17_code 47 = .ok (.invokevirtual 114, 3) := by decide +kernel
theorem d128_50 : decode prog_12_method_17_code 50 = .ok (.ireturn, 1) := by decide +kernel
theorem d129_0 : decode prog_12_method_6_code 0 = .ok (.aload_n 0, 1) := by decide +kernel
theorem d129_1 : decode prog_12_method_6_code 1 = .ok (.iconst 0, 1) := by decide +kernel
theorem d129_2 : decode prog_12_method_6_code 2 = .ok (.putfield 28, 3) := by decide +kernel
theorem d129_5 : decode prog_12_method_6_code 5 = .ok (.aload_n 0, 1) := by decide +kernel
theorem d129_6 : decode prog_12_method_6_code 6 = .ok (.getfield 7, 3) := by decide +kernel
theorem d129_9 : decode prog_12_method_6_code 9 = .ok (.iconst 0, 1) := by decide +kernel
theorem d129_10 : decode prog_12_method_6_code 10 = .ok (.aload_n 0, 1) := by decide +kernel
theorem d129_11 : decode prog_12_method_6_code 11 = .ok (.getfield 13, 3) := by decide +kernel
theorem d129_14 : decode prog_12_method_6_code 14 = .ok (.iconst 0, 1) := by decide +kernel
theorem d129_15 : decode prog_12_method_6_code 15 = .ok (.invokestatic 81, 3) := by decide +kernel
theorem d129_18 : decode prog_12_method_6_code 18 = .ok (.return_, 1) := by decide +kernel
theorem d130_0 : decode prog_12_method_4_code 0 = .ok (.iconst 0, 1) := by decide +kernel
theorem d130_1 : decode prog_12_method_4_code 1 = .ok (.istore 4, 2) := by decide +kernel
theorem d130_3 : decode prog_12_method_4_code 3 = .ok (.iload 4, 2) := by decide +kernel
theorem d130_5 : decode prog_12_method_4_code 5 = .ok (.sipush 140, 3) := by decide +kernel
theorem d130_8 : decode prog_12_method_4_code 8 = .ok (.if_icmp .ge 21, 3) := by decide +kernel
theorem d130_11 : decode prog_12_method_4_code 11 = .ok (.aload_n 2, 1) := by decide +kernel
theorem d130_12 : decode prog_12_method_4_code 12 = .ok (.iload_n 3, 1) := by decide +kernel
theorem d130_13 : decode prog_12_method_4_code 13 = .ok (.iload 4, 2) := by decide +kernel
theorem d130_15 : decode prog_12_method_4_code 15 = .ok (.iadd, 1) := by decide +kernel
theorem d130_16 : decode prog_12_method_4_code 16 = .ok (.aload_n 0, 1) := by decide +kernel
theorem d130_17 : decode prog_12_method_4_code 17 = .ok (.iload_n 1, 1) := by decide +kernel
theorem d130_18 : decode prog_12_method_4_code 18 = .ok (.iload 4, 2) := by decide +kernel
theorem d130_20 : decode prog_12_method_4_code 20 = .ok (.iadd, 1) := by decide +kernel
theorem d130_21 : decode prog_12_method_4_code 21 = .ok (.iaload, 1) := by decide +kernel
theorem d130_22 : decode prog_12_method_4_code 22 = .ok (.iastore, 1) := by decide +kernel
theorem d130_23 : decode prog_12_method_4_code 23 = .ok (.iinc 4 1, 3) := by decide +kernel
theorem d130_26 : decode prog_12_method_4_code 26 = .ok (.goto (-23), 3) := by decide +kernel
theorem d130_29 : decode prog_12_method_4_code 29 = .ok (.return_, 1) := by decide +kernel
theorem d131_0 : decode prog_12_method_15_code 0 = .ok (.iload_n 1, 1) := by decide +kernel
theorem d131_1 : decode prog_12_method_15_code 1 = .ok (.iconst 0, 1) := by decide +kernel
theorem d131_2 : decode prog_12_method_15_code 2 = .ok (.bipush 20, 2) := by decide +kernel
theorem d131_4 : decode prog_12_method_15_code 4 = .ok (.invokestatic 89, 3) := by decide +kernel
theorem d131_7 : decode prog_12_method_15_code 7 = .ok (.ifCond .eq 50, 3) := by decide +kernel
theorem d131_10 : decode prog_12_method_15_code 10 = .ok (.iload_n 2, 1) := by decide +kernel
theorem d131_11 : decode prog_12_method_15_code 11 = .ok (.iconst 0, 1) := by decide +kernel
theorem d131_12 : decode prog_12_method_15_code 12 = .ok (.bipush 20, 2) := by decide +kernel
theorem d131_14 : decode prog_12_method_15_code 14 = .ok (.invokestatic 89, 3) := by decide +kernel
theorem d131_17 : decode prog_12_method_15_code 17 = .ok (.ifCond .eq 40, 3) := by decide +kernel
theorem d131_20 : decode prog_12_method_15_code 20 = .ok (.iload_n 3, 1) := by decide +kernel
theorem d131_21 : decode prog_12_method_15_code 21 = .ok (.invokestatic 93, 3) := by decide +kernel
theorem d131_24 : decode prog_12_method_15_code 24 = .ok (.ifCond .eq 33, 3) := by decide +kernel
theorem d131_27 : decode prog_12_method_15_code 27 = .ok (.iload 4, 2) := by decide +kernel
theorem d131_29 : decode prog_12_method_15_code 29 = .ok (.invokestatic 97, 3) := by decide +kernel
theorem d131_32 : decode prog_12_method_15_code 32 = .ok (.ifCond .eq 25, 3) := by decide +kernel
theorem d131_35 : decode prog_12_method_15_code 35 = .ok (.iload 5, 2) := by decide +kernel
theorem d131_37 : decode prog_12_method_15_code 37 = .ok (.iconst 1, 1) := by decide +kernel
theorem d131_38 : decode prog_12_method_15_code 38 = .ok (.iconst 4, 1) := by decide +kernel
theorem d131_39 : decode prog_12_method_15_code 39 = .ok (.invokestatic 89, 3) := by decide +kernel
theorem d131_42 : decode prog_12_method_15_code 42 = .ok (.ifCond .eq 15, 3) := by decide +kernel
theorem d131_45 : decode prog_12_method_15_code 45 = .ok (.iload 6, 2) := by decide +kernel
theorem d131_47 : decode prog_12_method_15_code 47 = .ok (.iconst 1, 1) := by decide +kernel
theorem d131_48 : decode prog_12_method_15_code 48 = .ok (.sipush 199, 3) := by decide +kernel
theorem d131_51 : decode prog_12_method_15_code 51 = .ok (.invokestatic 89, 3) := by decide +kernel
theorem d131_54 : decode prog_12_method_15_code 54 = .ok (.ifCond .ne 5, 3) := by decide +kernel
theorem d131_57 : decode prog_12_method_15_code 57 = .ok (.iconst 1, 1) := by decide +kernel
theorem d131_58 : decode prog_12_method_15_code 58 = .ok (.ireturn, 1) := by decide +kernel
theorem d131_59 : decode prog_12_method_15_code 59 = .ok (.aload_n 0, 1) := by decide +kernel
theorem d131_60 : decode prog_12_method_15_code 60 = .ok (.getfield 7, 3) := by decide +kernel
theorem d131_63 : decode prog_12_method_15_code 63 = .ok (.iconst 0, 1) := by decide +kernel
theorem d131_64 : decode prog_12_method_15_code 64 = .ok (.iaload, 1) := by decide +kernel
theorem d131_65 : decode prog_12_method_15_code 65 = .ok (.bipush 12, 2) := by decide +kernel
theorem d131_67 : decode prog_12_method_15_code 67 = .ok (.if_icmp .ne 7, 3) := by decide +kernel
theorem d131_70 : decode prog_12_method_15_code 70 = .ok (.iconst 2, 1) := by decide +kernel
theorem d131_71 : decode prog_12_method_15_code 71 = .ok (.goto 4, 3) := by decide +kernel
theorem d131_74 : decode prog_12_method_15_code 74 = .ok (.iconst 0, 1) := by decide +kernel
theorem d131_75 : decode prog_12_method_15_code 75 = .ok (.ireturn, 1) := by decide +kernel
theorem d132_0 : decode prog_12_method_3_code 0 = .ok (.iload_n 0, 1) := by decide +kernel
theorem d132_1 : decode prog_12_method_3_code 1 = .ok (.iload_n 1, 1) := by decide +kernel
theorem d132_2 : decode prog_12_method_3_code 2 = .ok (.if_icmp .lt 12, 3) := by decide +kernel
theorem d132_5 : decode prog_12_method_3_code 5 = .ok (.iload_n 0, 1) := by decide +kernel
theorem d132_6 : decode prog_12_method_3_code 6 = .ok (.iload_n 2, 1) := by decide +kernel
theorem d132_7 : decode prog_12_method_3_code 7 = .ok (.if_icmp .gt 7, 3) := by decide +kernel
theorem d132_10 : decode prog_12_method_3_code 10 = .ok (.iconst 1, 1) := by decide +kernel
theorem d132_11 : decode prog_12_method_3_code 11 = .ok (.goto 4, 3) := by decide +kernel
theorem d132_14 : decode prog_12_method_3_code 14 = .ok (.iconst 0, 1) := by decide +kernel
theorem d132_15 : decode prog_12_method_3_code 15 = .ok (.ireturn, 1) := by decide +kernel
theorem d133_0 : decode prog_12_method_13_code 0 = .ok (.iload_n 0, 1) := by decide +kernel
theorem d133_1 : decode prog_12_method_13_code 1 = .ok (.bipush 97, 2) := by decide +kernel
theorem d133_3 : decode prog_12_method_13_code 3 = .ok (.bipush 100, 2) := by decide +kernel
theorem d133_5 : decode prog_12_method_13_code 5 = .ok (.invokestatic 89, 3) := by decide +kernel
theorem d133_8 : decode prog_12_method_13_code 8 = .ok (.ireturn, 1) := by decide +kernel
theorem d134_0 : decode prog_12_method_14_code 0 = .ok (.iload_n 0, 1) := by decide +kernel
theorem d134_1 : decode prog_12_method_14_code 1 = .ok (.iconst 0, 1) := by decide +kernel
theorem d134_2 : decode prog_12_method_14_code 2 = .ok (.iconst 5, 1) := by decide +kernel
theorem d134_3 : decode prog_12_method_14_code 3 = .ok (.invokestatic 89, 3) := by decide +kernel
theorem d134_6 : decode prog_12_method_14_code 6 = .ok (.ireturn, 1) := by decide +kernel
theorem d135_0 : decode prog_12_method_5_code 0 = .ok (.aload_n 0, 1) := by decide +kernel
theorem d135_1 : decode prog_12_method_5_code 1 = .ok (.iload_n 1, 1) := by decide +kernel
theorem d135_2 : decode prog_12_method_5_code 2 = .ok (.putfield 28, 3) := by decide +kernel
theorem d135_5 : decode prog_12_method_5_code 5 = .ok (.iconst 0, 1) := by decide +kernel
theorem d135_6 : decode prog_12_method_5_code 6 = .ok (.ireturn, 1) := by decide +kernel
theorem d136_0 : decode prog_12_method_16_code 0 = .ok (.bipush 42, 2) := by decide +kernel
theorem d136_2 : decode prog_12_method_16_code 2 = .ok (.bipush 8, 2) := by decide +kernel
theorem d136_4 : decode prog_12_method_16_code 4 = .ok (.aload_n 0, 1) := by decide +kernel
theorem d136_5 : decode prog_12_method_16_code 5 = .ok (.getfield 7, 3) := by decide +kernel
theorem d136_8 : decode prog_12_method_16_code 8 = .ok (.iconst 0, 1) := by decide +kernel
theorem d136_9 : decode prog_12_method_16_code 9 = .ok (.iaload, 1) := by decide +kernel
theorem d136_10 : decode prog_12_method_16_code 10 = .ok (.imul, 1) := by decide +kernel
theorem d136_11 : decode prog_12_method_16_code 11 = .ok (.iadd, 1) := by decide +kernel
theorem d136_12 : decode prog_12_method_16_code 12 = .ok (.istore 7, 2) := by decide +kernel
theorem d136_14 : decode prog_12_method_16_code 14 = .ok (.aload_n 0, 1) := by decide +kernel
theorem d136_15 : decode prog_12_method_16_code 15 = .ok (.getfield 7, 3) := by decide +kernel
theorem d136_18 : decode prog_12_method_16_code 18 = .ok (.iload 7, 2) := by decide +kernel
theorem d136_20 : decode prog_12_method_16_code 20 = .ok (.iconst 0, 1) := by decide +kernel
theorem d136_21 : decode prog_12_method_16_code 21 = .ok (.iadd, 1) := by decide +kernel
theorem d136_22 : decode prog_12_method_16_code 22 = .ok (.aload_n 0, 1) := by decide +kernel
theorem d136_23 : decode prog_12_method_16_code 23 = .ok (.getfield 7, 3) := by decide +kernel
theorem d136_26 : decode prog_12_method_16_code 26 = .ok (.iconst 1, 1) := by decide +kernel
theorem d136_27 : decode prog_12_method_16_code 27 = .ok (.iaload, 1) := by decide +kernel
theorem d136_28 : decode prog_12_method_16_code 28 = .ok (.iastore, 1) := by decide +kernel
theorem d136_29 : decode prog_12_method_16_code 29 = .ok (.aload_n 0, 1) := by decide +kernel
theorem d136_30 : decode prog_12_method_16_code 30 = .ok (.getfield 7, 3) := by decide +kernel
theorem d136_33 : decode prog_12_method_16_code 33 = .ok (.iload 7, 2) := by decide +kernel
theorem d136_35 : decode prog_12_method_16_code 35 = .ok (.iconst 1, 1) := by decide +kernel
theorem d136_36 : decode prog_12_method_16_code 36 = .ok (.iadd, 1) := by decide +kernel
theorem d136_37 : decode prog_12_method_16_code 37 = .ok (.iload_n 1, 1) := by decide +kernel
theorem d136_38 : decode prog_12_method_16_code 38 = .ok (.iastore, 1) := by decide +kernel
theorem d136_39 : decode prog_12_method_16_code 39 = .ok (.aload_n 0, 1) := by decide +kernel
theorem d136_40 : decode prog_12_method_16_code 40 = .ok (.getfield 7, 3) := by decide +kernel
theorem d136_43 : decode prog_12_method_16_code 43 = .ok (.iload 7, 2) := by decide +kernel
theorem d136_45 : decode prog_12_method_16_code 45 = .ok (.iconst 2, 1) := by decide +kernel
theorem d136_46 : decode prog_12_method_16_code 46 = .ok (.iadd, 1) := by decide +kernel
theorem d136_47 : decode prog_12_method_16_code 47 = .ok (.iload_n 2, 1) := by decide +kernel
theorem d136_48 : decode prog_12_method_16_code 48 = .ok (.iastore, 1) := by decide +kernel
theorem d136_49 : decode prog_12_method_16_code 49 = .ok (.aload_n 0, 1) := by decide +kernel
theorem d136_50 : decode prog_12_method_16_code 50 = .ok (.getfield 7, 3) := by decide +kernel
theorem d136_53 : decode prog_12_method_16_code 53 = .ok (.iload 7, 2) := by decide +kernel
theorem d136_55 : decode prog_12_method_16_code 55 = .ok (.iconst 3, 1) := by decide +kernel
theorem d136_56 : decode prog_12_method_16_code 56 = .ok (.iadd, 1) := by decide +kernel
theorem d136_57 : decode prog_12_method_16_code 57 = .ok (.iload_n 3, 1) := by decide +kernel
theorem d136_58 : decode prog_12_method_16_code 58 = .ok (.iastore, 1) := by decide +kernel
theorem d136_59 : decode prog_12_method_16_code 59 = .ok (.aload_n 0, 1) := by decide +kernel
theorem d136_60 : decode prog_12_method_16_code 60 = .ok (.getfield 7, 3) := by decide +kernel
theorem d136_63 : decode prog_12_method_16_code 63 = .ok (.iload 7, 2) := by decide +kernel
theorem d136_65 : decode prog_12_method_16_code 65 = .ok (.iconst 4, 1) := by decide +kernel
theorem d136_66 : decode prog_12_method_16_code 66 = .ok (.iadd, 1) := by decide +kernel
theorem d136_67 : decode prog_12_method_16_code 67 = .ok (.iload 4, 2) := by decide +kernel
theorem d136_69 : decode prog_12_method_16_code 69 = .ok (.iastore, 1) := by decide +kernel
theorem d136_70 : decode prog_12_method_16_code 70 = .ok (.aload_n 0, 1) := by decide +kernel
theorem d136_71 : decode prog_12_method_16_code 71 = .ok (.getfield 7, 3) := by decide +kernel
theorem d136_74 : decode prog_12_method_16_code 74 = .ok (.iload 7, 2) := by decide +kernel
theorem d136_76 : decode prog_12_method_16_code 76 = .ok (.iconst 5, 1) := by decide +kernel
theorem d136_77 : decode prog_12_method_16_code 77 = .ok (.iadd, 1) := by decide +kernel
theorem d136_78 : decode prog_12_method_16_code 78 = .ok (.iload 5, 2) := by decide +kernel
theorem d136_80 : decode prog_12_method_16_code 80 = .ok (.iastore, 1) := by decide +kernel
theorem d136_81 : decode prog_12_method_16_code 81 = .ok (.aload_n 0, 1) := by decide +kernel
theorem d136_82 : decode prog_12_method_16_code 82 = .ok (.getfield 7, 3) := by decide +kernel
theorem d136_85 : decode prog_12_method_16_code 85 = .ok (.iload 7, 2) := by decide +kernel
theorem d136_87 : decode prog_12_method_16_code 87 = .ok (.bipush 6, 2) := by decide +kernel
theorem d136_89 : decode prog_12_method_16_code 89 = .ok (.iadd, 1) := by decide +kernel
theorem d136_90 : decode prog_12_method_16_code 90 = .ok (.iload 6, 2) := by decide +kernel
theorem d136_92 : decode prog_12_method_16_code 92 = .ok (.iastore, 1) := by decide +kernel
theorem d136_93 : decode prog_12_method_16_code 93 = .ok (.aload_n 0, 1) := by decide +kernel
theorem d136_94 : decode prog_12_method_16_code 94 = .ok (.getfield 7, 3) := by decide +kernel
theorem d136_97 : decode prog_12_method_16_code 97 = .ok (.iload 7, 2) := by decide +kernel
theorem d136_99 : decode prog_12_method_16_code 99 = .ok (.bipush 7, 2) := by decide +kernel
theorem d136_101 : decode prog_12_method_16_code 101 = .ok (.iadd, 1) := by decide +kernel
theorem d136_102 : decode prog_12_method_16_code 102 = .ok (.iconst 0, 1) := by decide +kernel
theorem d136_103 : decode prog_12_method_16_code 103 = .ok (.iastore, 1) := by decide +kernel
theorem d136_104 : decode prog_12_method_16_code 104 = .ok (.aload_n 0, 1) := by decide +kernel
theorem d136_105 : decode prog_12_method_16_code 105 = .ok (.getfield 7, 3) := by decide +kernel
theorem d136_108 : decode prog_12_method_16_code 108 = .ok (.iconst 0, 1) := by decide +kernel
theorem d136_109 : decode prog_12_method_16_code 109 = .ok (.dup2, 1) := by decide +kernel
theorem d136_110 : decode prog_12_method_16_code 110 = .ok (.iaload, 1) := by decide +kernel
theorem d136_111 : decode prog_12_method_16_code 111 = .ok (.iconst 1, 1) := by decide +kernel
theorem d136_112 : decode prog_12_method_16_code 112 = .ok (.iadd, 1) := by decide +kernel
theorem d136_113 : decode prog_12_method_16_code 113 = .ok (.iastore, 1) := by decide +kernel
theorem d136_114 : decode prog_12_method_16_code 114 = .ok (.aload_n 0, 1) := by decide +kernel
theorem d136_115 : decode prog_12_method_16_code 115 = .ok (.getfield 7, 3) := by decide +kernel
theorem d136_118 : decode prog_12_method_16_code 118 = .ok (.iconst 1, 1) := by decide +kernel
theorem d136_119 : decode prog_12_method_16_code 119 = .ok (.dup2, 1) := by decide +kernel
theorem d136_120 : decode prog_12_method_16_code 120 = .ok (.iaload, 1) := by decide +kernel
theorem d136_121 : decode prog_12_method_16_code 121 = .ok (.iconst 1, 1) := by decide +kernel
theorem d136_122 : decode prog_12_method_16_code 122 = .ok (.iadd, 1) := by decide +kernel
theorem d136_123 : decode prog_12_method_16_code 123 = .ok (.iastore, 1) := by decide +kernel
theorem d136_124 : decode prog_12_method_16_code 124 = .ok (.aload_n 0, 1) := by decide +kernel
theorem d136_125 : decode prog_12_method_16_code 125 = .ok (.getfield 7, 3) := by decide +kernel
theorem d136_128 : decode prog_12_method_16_code 128 = .ok (.iconst 1, 1) := by decide +kernel
theorem d136_129 : decode prog_12_method_16_code 129 = .ok (.iaload, 1) := by decide +kernel
theorem d136_130 : decode prog_12_method_16_code 130 = .ok (.iconst 1, 1) := by decide +kernel
theorem d136_131 : decode prog_12_method_16_code 131 = .ok (.isub, 1) := by decide +kernel
theorem d136_132 : decode prog_12_method_16_code 132 = .ok (.ireturn, 1) := by decide +kernel
theorem d137_0 : decode prog_12_method_7_code 0 = .ok (.aload_n 0, 1) := by decide +kernel
theorem d137_1 : decode prog_12_method_7_code 1 = .ok (.getfield 32, 3) := by decide +kernel
theorem d137_4 : decode prog_12_method_7_code 4 = .ok (.bipush 8, 2) := by decide +kernel
theorem d137_6 : decode prog_12_method_7_code 6 = .ok (.if_icmp .ne 50, 3) := by decide +kernel
theorem d137_9 : decode prog_12_method_7_code 9 = .ok (.iconst 1, 1) := by decide +kernel
theorem d137_10 : decode prog_12_method_7_code 10 = .ok (.istore_n 2, 1) := by decide +kernel
theorem d137_11 : decode prog_12_method_7_code 11 = .ok (.iload_n 2, 1) := by decide +kernel
theorem d137_12 : decode prog_12_method_7_code 12 = .ok (.bipush 8, 2) := by decide +kernel
theorem d137_14 : decode prog_12_method_7_code 14 = .ok (.if_icmp .ge 32, 3) := by decide +kernel
theorem d137_17 : decode prog_12_method_7_code 17 = .ok (.aload_n 0, 1) := by decide +kernel
theorem d137_18 : decode prog_12_method_7_code 18 = .ok (.getfield 19, 3) := by decide +kernel
theorem d137_21 : decode prog_12_method_7_code 21 = .ok (.sipush 140, 3) := by decide +kernel
theorem d137_24 : decode prog_12_method_7_code 24 = .ok (.iload_n 2, 1) := by decide +kernel
theorem d137_25 : decode prog_12_method_7_code 25 = .ok (.imul, 1) := by decide +kernel
theorem d137_26 : decode prog_12_method_7_code 26 = .ok (.aload_n 0, 1) := by decide +kernel
theorem d137_27 : decode prog_12_method_7_code 27 = .ok (.getfield 19, 3) := by decide +kernel
theorem d137_30 : decode prog_12_method_7_code 30 = .ok (.sipush 140, 3) := by decide +kernel
theorem d137_33 : decode prog_12_method_7_code 33 = .ok (.iload_n 2, 1) := by decide +kernel
theorem d137_34 : decode prog_12_method_7_code 34 = .ok (.iconst 1, 1) := by decide +kernel
theorem d137_35 : decode prog_12_method_7_code 35 = .ok (.isub, 1) := by decide +kernel
theorem d137_36 : decode prog_12_method_7_code 36 = .ok (.imul, 1) := by decide +kernel
theorem d137_37 : decode prog_12_method_7_code 37 = .ok (.invokestatic 81, 3) := by decide +kernel
theorem d137_40 : decode prog_12_method_7_code 40 = .ok (.iinc 2 1, 3) := by decide +kernel
theorem d137_43 : decode prog_12_method_7_code 43 = .ok (.goto (-32), 3) := by decide +kernel
theorem d137_46 : decode prog_12_method_7_code 46 = .ok (.aload_n 0, 1) := by decide +kernel
theorem d137_47 : decode prog_12_method_7_code 47 = .ok (.dup, 1) := by decide +kernel
theorem d137_48 : decode prog_12_method_7_code 48 = .ok (.getfield 32, 3) := by decide +kernel
theorem d137_51 : decode prog_12_method_7_code 51 = .ok (.iconst 1, 1) := by decide +kernel
theorem d137_52 : decode prog_12_method_7_code 52 = .ok (.isub, 1) := by decide +kernel
theorem d137_53 : decode prog_12_method_7_code 53 = .ok (.putfield 32, 3) := by decide +kernel
theorem d137_56 : decode prog_12_method_7_code 56 = .ok (.aload_n 0, 1) := by decide +kernel
theorem d137_57 : decode prog_12_method_7_code 57 = .ok (.getfield 13, 3) := by decide +kernel
theorem d137_60 : decode prog_12_method_7_code 60 = .ok (.iconst 0, 1) := by decide +kernel
theorem d137_61 : decode prog_12_method_7_code 61 = .ok (.aload_n 0, 1) := by decide +kernel
theorem d137_62 : decode prog_12_method_7_code 62 = .ok (.getfield 19, 3) := by decide +kernel
theorem d137_65 : decode prog_12_method_7_code 65 = .ok (.sipush 140, 3) := by decide +kernel
theorem d137_68 : decode prog_12_method_7_code 68 = .ok (.aload_n 0, 1) := by decide +kernel
theorem d137_69 : decode prog_12_method_7_code 69 = .ok (.getfield 32, 3) := by decide +kernel
theorem d137_72 : decode prog_12_method_7_code 72 = .ok (.imul, 1) := by decide +kernel
theorem d137_73 : decode prog_12_method_7_code 73 = .ok (.invokestatic 81, 3) := by decide +kernel
theorem d137_76 : decode prog_12_method_7_code 76 = .ok (.aload_n 0, 1) := by decide +kernel
theorem d137_77 : decode prog_12_method_7_code 77 = .ok (.dup, 1) := by decide +kernel
theorem d137_78 : decode prog_12_method_7_code 78 = .ok (.getfield 32, 3) := by decide +kernel
theorem d137_81 : decode prog_12_method_7_code 81 = .ok (.iconst 1, 1) := by decide +kernel
theorem d137_82 : decode prog_12_method_7_code 82 = .ok (.iadd, 1) := by decide +kernel
theorem d137_83 : decode prog_12_method_7_code 83 = .ok (.putfield 32, 3) := by decide +kernel
theorem d137_86 : decode prog_12_method_7_code 86 = .ok (.iload_n 1, 1) := by decide +kernel
theorem d137_87 : decode prog_12_method_7_code 87 = .ok (.ireturn, 1) := by decide +kernel
theorem d138_0 : decode prog_12_method_19_code 0 = .ok (.aload_n 0, 1) := by decide +kernel
theorem d138_1 : decode prog_12_method_19_code 1 = .ok (.invokevirtual 100, 3) := by decide +kernel
theorem d138_4 : decode prog_12_method_19_code 4 = .ok (.aload_n 0, 1) := by decide +kernel
theorem d138_5 : decode prog_12_method_19_code 5 = .ok (.iload_n 1, 1) := by decide +kernel
theorem d138_6 : decode prog_12_method_19_code 6 = .ok (.invokevirtual 117, 3) := by decide +kernel
theorem d138_9 : decode prog_12_method_19_code 9 = .ok (.ifCond .ge 11, 3) := by decide +kernel
theorem d138_12 : decode prog_12_method_19_code 12 = .ok (.aload_n 0, 1) := by decide +kernel
theorem d138_13 : decode prog_12_method_19_code 13 = .ok (.iconst 1, 1) := by decide +kernel
theorem d138_14 : decode prog_12_method_19_code 14 = .ok (.invokevirtual 107, 3) := by decide +kernel
theorem d138_17 : decode prog_12_method_19_code 17 = .ok (.goto 16, 3) := by decide +kernel
theorem d138_20 : decode prog_12_method_19_code 20 = .ok (.aload_n 0, 1) := by decide +kernel
theorem d138_21 : decode prog_12_method_19_code 21 = .ok (.aload_n 0, 1) := by decide +kernel
theorem d138_22 : decode prog_12_method_19_code 22 = .ok (.aload_n 0, 1) := by decide +kernel
theorem d138_23 : decode prog_12_method_19_code 23 = .ok (.iload_n 1, 1) := by decide +kernel
theorem d138_24 : decode prog_12_method_19_code 24 = .ok (.invokevirtual 117, 3) := by decide +kernel
theorem d138_27 : decode prog_12_method_19_code 27 = .ok (.invokevirtual 120, 3) := by decide +kernel
theorem d138_30 : decode prog_12_method_19_code 30 = .ok (.invokevirtual 114, 3) := by decide +kernel
theorem d138_33 : decode prog_12_method_19_code 33 = .ok (.ireturn, 1) := by decide +kernel
theorem d139_0 : decode prog_12_method_11_code 0 = .ok (.iconst 0, 1) := by decide +kernel
theorem d139_1 : decode prog_12_method_11_code 1 = .ok (.istore_n 2, 1) := by decide +kernel
theorem d139_2 : decode prog_12_method_11_code 2 = .ok (.iload_n 2, 1) := by decide +kernel
theorem d139_3 : decode prog_12_method_11_code 3 = .ok (.aload_n 0, 1) := by decide +kernel
theorem d139_4 : decode prog_12_method_11_code 4 = .ok (.getfield 7, 3) := by decide +kernel
theorem d139_7 : decode prog_12_method_11_code 7 = .ok (.iconst 0, 1) := by decide +kernel
theorem d139_8 : decode prog_12_method_11_code 8 = .ok (.iaload, 1) := by decide +kernel
theorem d139_9 : decode prog_12_method_11_code 9 = .ok (.if_icmp .ge 21, 3) := by decide +kernel
theorem d139_12 : decode prog_12_method_11_code 12 = .ok (.aload_n 0, 1) := by decide +kernel
theorem d139_13 : decode prog_12_method_11_code 13 = .ok (.iload_n 2, 1) := by decide +kernel
theorem d139_14 : decode prog_12_method_11_code 14 = .ok (.iconst 0, 1) := by decide +kernel
theorem d139_15 : decode prog_12_method_11_code 15 = .ok (.invokevirtual 85, 3) := by decide +kernel
theorem d139_18 : decode prog_12_method_11_code 18 = .ok (.iload_n 1, 1) := by decide +kernel
theorem d139_19 : decode prog_12_method_11_code 19 = .ok (.if_icmp .ne 5, 3) := by decide +kernel
theorem d139_22 : decode prog_12_method_11_code 22 = .ok (.iload_n 2, 1) := by decide +kernel
theorem d139_23 : decode prog_12_method_11_code 23 = .ok (.ireturn, 1) := by decide +kernel
theorem d139_24 : decode prog_12_method_11_code 24 = .ok (.iinc 2 1, 3) := by decide +kernel
theorem d139_27 : decode prog_12_method_11_code 27 = .ok (.goto (-25), 3) := by decide +kernel
theorem d139_30 : decode prog_12_method_11_code 30 = .ok (.iconst (-1), 1) := by decide +kernel
theorem d139_31 : decode prog_12_method_11_code 31 = .ok (.ireturn, 1) := by decide +kernel
theorem d140_0 : decode prog_12_method_8_code 0 = .ok (.aload_n 0, 1) := by decide +kernel
theorem d140_1 : decode prog_12_method_8_code 1 = .ok (.getfield 7, 3) := by decide +kernel
theorem d140_4 : decode prog_12_method_8_code 4 = .ok (.bipush 42, 2) := by decide +kernel
theorem d140_6 : decode prog_12_method_8_code 6 = .ok (.bipush 8, 2) := by decide +kernel
theorem d140_8 : decode prog_12_method_8_code 8 = .ok (.iload_n 1, 1) := by decide +kernel
theorem d140_9 : decode prog_12_method_8_code 9 = .ok (.imul, 1) := by decide +kernel
theorem d140_10 : decode prog_12_method_8_code 10 = .ok (.iadd, 1) := by decide +kernel
theorem d140_11 : decode prog_12_method_8_code 11 = .ok (.iload_n 2, 1) := by decide +kernel
theorem d140_12 : decode prog_12_method_8_code 12 = .ok (.iadd, 1) := by decide +kernel
theorem d140_13 : decode prog_12_method_8_code 13 = .ok (.iaload, 1) := by decide +kernel
theorem d140_14 : decode prog_12_method_8_code 14 = .ok (.ireturn, 1) := by decide +kernel
theorem d141_0 : decode prog_12_method_18_code 0 = .ok (.aload_n 0, 1) := by decide +kernel
theorem d141_1 : decode prog_12_method_18_code 1 = .ok (.getfield 7, 3) := by decide +kernel
theorem d141_4 : decode prog_12_method_18_code 4 = .ok (.iconst 0, 1) := by decide +kernel
theorem d141_5 : decode prog_12_method_18_code 5 = .ok (.dup2, 1) := by decide +kernel
theorem d141_6 : decode prog_12_method_18_code 6 = .ok (.iaload, 1) := by decide +kernel
theorem d141_7 : decode prog_12_method_18_code 7 = .ok (.iconst 1, 1) := by decide +kernel
theorem d141_8 : decode prog_12_method_18_code 8 = .ok (.isub, 1) := by decide +kernel
theorem d141_9 : decode prog_12_method_18_code 9 = .ok (.iastore, 1) := by decide +kernel
theorem d141_10 : decode prog_12_method_18_code 10 = .ok (.bipush 42, 2) := by decide +kernel
theorem d141_12 : decode prog_12_method_18_code 12 = .ok (.bipush 8, 2) := by decide +kernel
theorem d141_14 : decode prog_12_method_18_code 14 = .ok (.iload_n 1, 1) := by decide +kernel
theorem d141_15 : decode prog_12_method_18_code 15 = .ok (.imul, 1) := by decide +kernel
theorem d141_16 : decode prog_12_method_18_code 16 = .ok (.iadd, 1) := by decide +kernel
theorem d141_17 : decode prog_12_method_18_code 17 = .ok (.istore_n 2, 1) := by decide +kernel
theorem d141_18 : decode prog_12_method_18_code 18 = .ok (.iload_n 2, 1) := by decide +kernel
theorem d141_19 : decode prog_12_method_18_code 19 = .ok (.bipush 42, 2) := by decide +kernel
theorem d141_21 : decode prog_12_method_18_code 21 = .ok (.bipush 8, 2) := by decide +kernel
theorem d141_23 : decode prog_12_method_18_code 23 = .ok (.aload_n 0, 1) := by decide +kernel
theorem d141_24 : decode prog_12_method_18_code 24 = .ok (.getfield 7, 3) := by decide +kernel
theorem d141_27 : decode prog_12_method_18_code 27 = .ok (.iconst 0, 1) := by decide +kernel
theorem d141_28 : decode prog_12_method_18_code 28 = .ok (.iaload, 1) := by decide +kernel
theorem d141_29 : decode prog_12_method_18_code 29 = .ok (.imul, 1) := by decide +kernel
theorem d141_30 : decode prog_12_method_18_code 30 = .ok (.iadd, 1) := by decide +kernel
theorem d141_31 : decode prog_12_method_18_code 31 = .ok (.if_icmp .ge 24, 3) := by decide +kernel
theorem d141_34 : decode prog_12_method_18_code 34 = .ok (.aload_n 0, 1) := by decide +kernel
theorem d141_35 : decode prog_12_method_18_code 35 = .ok (.getfield 7, 3) := by decide +kernel
theorem d141_38 : decode prog_12_method_18_code 38 = .ok (.iload_n 2, 1) := by decide +kernel
theorem d141_39 : decode prog_12_method_18_code 39 = .ok (.aload_n 0, 1) := by decide +kernel
theorem d141_40 : decode prog_12_method_18_code 40 = .ok (.getfield 7, 3) := by decide +kernel
theorem d141_43 : decode prog_12_method_18_code 43 = .ok (.iload_n 2, 1) := by decide +kernel
theorem d141_44 : decode prog_12_method_18_code 44 = .ok (.bipush 8, 2) := by decide +kernel
theorem d141_46 : decode prog_12_method_18_code 46 = .ok (.iadd, 1) := by decide +kernel
theorem d141_47 : decode prog_12_method_18_code 47 = .ok (.iaload, 1) := by decide +kernel
theorem d141_48 : decode prog_12_method_18_code 48 = .ok (.iastore, 1) := by decide +kernel
theorem d141_49 : decode prog_12_method_18_code 49 = .ok (.iinc 2 1, 3) := by decide +kernel
theorem d141_52 : decode prog_12_method_18_code 52 = .ok (.goto (-34), 3) := by decide +kernel
theorem d141_55 : decode prog_12_method_18_code 55 = .ok (.iconst 0, 1) := by decide +kernel
theorem d141_56 : decode prog_12_method_18_code 56 = .ok (.istore_n 2, 1) := by decide +kernel
theorem d141_57 : decode prog_12_method_18_code 57 = .ok (.iload_n 2, 1) := by decide +kernel
theorem d141_58 : decode prog_12_method_18_code 58 = .ok (.bipush 8, 2) := by decide +kernel
theorem d141_60 : decode prog_12_method_18_code 60 = .ok (.if_icmp .ge 29, 3) := by decide +kernel
theorem d141_63 : decode prog_12_method_18_code 63 = .ok (.aload_n 0, 1) := by decide +kernel
theorem d141_64 : decode prog_12_method_18_code 64 = .ok (.getfield 7, 3) := by decide +kernel
theorem d141_67 : decode prog_12_method_18_code 67 = .ok (.bipush 42, 2) := by decide +kernel
theorem d141_69 : decode prog_12_method_18_code 69 = .ok (.bipush 8, 2) := by decide +kernel
theorem d141_71 : decode prog_12_method_18_code 71 = .ok (.aload_n 0, 1) := by decide +kernel
theorem d141_72 : decode prog_12_method_18_code 72 = .ok (.getfield 7, 3) := by decide +kernel
theorem d141_75 : decode prog_12_method_18_code 75 = .ok (.iconst 0, 1) := by decide +kernel
theorem d141_76 : decode prog_12_method_18_code 76 = .ok (.iaload, 1) := by decide +kernel
theorem d141_77 : decode prog_12_method_18_code 77 = .ok (.imul, 1) := by decide +kernel
theorem d141_78 : decode prog_12_method_18_code 78 = .ok (.iadd, 1) := by decide +kernel
theorem d141_79 : decode prog_12_method_18_code 79 = .ok (.iload_n 2, 1) := by decide +kernel
theorem d141_80 : decode prog_12_method_18_code 80 = .ok (.iadd, 1) := by decide +kernel
theorem d141_81 : decode prog_12_method_18_code 81 = .ok (.iconst 0, 1) := by decide +kernel
theorem d141_82 : decode prog_12_method_18_code 82 = .ok (.iastore, 1) := by decide +kernel
theorem d141_83 : decode prog_12_method_18_code 83 = .ok (.iinc 2 1, 3) := by decide +kernel
theorem d141_86 : decode prog_12_method_18_code 86 = .ok (.goto (-29), 3) := by decide +kernel
theorem d141_89 : decode prog_12_method_18_code 89 = .ok (.aload_n 0, 1) := by decide +kernel
theorem d141_90 : decode prog_12_method_18_code 90 = .ok (.getfield 7, 3) := by decide +kernel
theorem d141_93 : decode prog_12_method_18_code 93 = .ok (.iconst 0, 1) := by decide +kernel
theorem d141_94 : decode prog_12_method_18_code 94 = .ok (.iaload, 1) := by decide +kernel
theorem d141_95 : decode prog_12_method_18_code 95 = .ok (.ireturn, 1) := by decide +kernel
theorem d142_0 : decode prog_12_method_23_code 0 = .ok (.aload_n 0, 1) := by decide +kernel
theorem d142_1 : decode prog_12_method_23_code 1 = .ok (.invokevirtual 100, 3) := by decide +kernel
theorem d142_4 : decode prog_12_method_23_code 4 = .ok (.aload_n 0, 1) := by decide +kernel
theorem d142_5 : decode prog_12_method_23_code 5 = .ok (.iload_n 1, 1) := by decide +kernel
theorem d142_6 : decode prog_12_method_23_code 6 = .ok (.iload_n 2, 1) := by decide +kernel
theorem d142_7 : decode prog_12_method_23_code 7 = .ok (.invokevirtual 129, 3) := by decide +kernel
theorem d142_10 : decode prog_12_method_23_code 10 = .ok (.istore_n 3, 1) := by decide +kernel
theorem d142_11 : decode prog_12_method_23_code 11 = .ok (.iload_n 3, 1) := by decide +kernel
theorem d142_12 : decode prog_12_method_23_code 12 = .ok (.ifCond .le 11, 3) := by decide +kernel
theorem d142_15 : decode prog_12_method_23_code 15 = .ok (.aload_n 0, 1) := by decide +kernel
theorem d142_16 : decode prog_12_method_23_code 16 = .ok (.iload_n 3, 1) := by decide +kernel
theorem d142_17 : decode prog_12_method_23_code 17 = .ok (.invokevirtual 107, 3) := by decide +kernel
theorem d142_20 : decode prog_12_method_23_code 20 = .ok (.goto 13, 3) := by decide +kernel
theorem d142_23 : decode prog_12_method_23_code 23 = .ok (.aload_n 0, 1) := by decide +kernel
theorem d142_24 : decode prog_12_method_23_code 24 = .ok (.aload_n 0, 1) := by decide +kernel
theorem d142_25 : decode prog_12_method_23_code 25 = .ok (.iload_n 1, 1) := by decide +kernel
theorem d142_26 : decode prog_12_method_23_code 26 = .ok (.iload_n 2, 1) := by decide +kernel
theorem d142_27 : decode prog_12_method_23_code 27 = .ok (.invokevirtual 132, 3) := by decide +kernel
theorem d142_30 : decode prog_12_method_23_code 30 = .ok (.invokevirtual 114, 3) := by decide +kernel
theorem d142_33 : decode prog_12_method_23_code 33 = .ok (.ireturn, 1) := by decide +kernel
theorem d143_0 : decode prog_12_method_21_code 0 = .ok (.aload_n 0, 1) := by decide +kernel
theorem d143_1 : decode prog_12_method_21_code 1 = .ok (.iload_n 1, 1) := by decide +kernel
theorem d143_2 : decode prog_12_method_21_code 2 = .ok (.invokevirtual 117, 3) := by decide +kernel
theorem d143_5 : decode prog_12_method_21_code 5 = .ok (.ifCond .ge 5, 3) := by decide +kernel
theorem d143_8 : decode prog_12_method_21_code 8 = .ok (.iconst 1, 1) := by decide +kernel
theorem d143_9 : decode prog_12_method_21_code 9 = .ok (.ireturn, 1) := by decide +kernel
theorem d143_10 : decode prog_12_method_21_code 10 = .ok (.iload_n 2, 1) := by decide +kernel
theorem d143_11 : decode prog_12_method_21_code 11 = .ok (.invokestatic 123, 3) := by decide +kernel
theorem d143_14 : decode prog_12_method_21_code 14 = .ok (.ifCond .ne 5, 3) := by decide +kernel
theorem d143_17 : decode prog_12_method_21_code 17 = .ok (.iconst 2, 1) := by decide +kernel
theorem d143_18 : decode prog_12_method_21_code 18 = .ok (.ireturn, 1) := by decide +kernel
theorem d143_19 : decode prog_12_method_21_code 19 = .ok (.aload_n 0, 1) := by decide +kernel
theorem d143_20 : decode prog_12_method_21_code 20 = .ok (.aload_n 0, 1) := by decide +kernel
theorem d143_21 : decode prog_12_method_21_code 21 = .ok (.iload_n 1, 1) := by decide +kernel
theorem d143_22 : decode prog_12_method_21_code 22 = .ok (.invokevirtual 117, 3) := by decide +kernel
theorem d143_25 : decode prog_12_method_21_code 25 = .ok (.bipush 7, 2) := by decide +kernel
theorem d143_27 : decode prog_12_method_21_code 27 = .ok (.invokevirtual 85, 3) := by decide +kernel
theorem d143_30 : decode prog_12_method_21_code 30 = .ok (.iload_n 2, 1) := by decide +kernel
theorem d143_31 : decode prog_12_method_21_code 31 = .ok (.iconst 1, 1) := by decide +kernel
theorem d143_32 : decode prog_12_method_21_code 32 = .ok (.iadd, 1) := by decide +kernel
theorem d143_33 : decode prog_12_method_21_code 33 = .ok (.if_icmp .eq 13, 3) := by decide +kernel
theorem d143_36 : decode prog_12_method_21_code 36 = .ok (.aload_n 0, 1) := by decide +kernel
theorem d143_37 : decode prog_12_method_21_code 37 = .ok (.iload_n 2, 1) := by decide +kernel
theorem d143_38 : decode prog_12_method_21_code 38 = .ok (.invokevirtual 126, 3) := by decide +kernel
theorem d143_41 : decode prog_12_method_21_code 41 = .ok (.bipush 6, 2) := by decide +kernel
theorem d143_43 : decode prog_12_method_21_code 43 = .ok (.if_icmp .ne 7, 3) := by decide +kernel
theorem d143_46 : decode prog_12_method_21_code 46 = .ok (.iconst 3, 1) := by decide +kernel
theorem d143_47 : decode prog_12_method_21_code 47 = .ok (.goto 4, 3) := by decide +kernel
theorem d143_50 : decode prog_12_method_21_code 50 = .ok (.iconst 0, 1) := by decide +kernel
theorem d143_51 : decode prog_12_method_21_code 51 = .ok (.ireturn, 1) := by decide +kernel
theorem d144_0 : decode prog_12_method_12_code 0 = .ok (.iload_n 0, 1) := by decide +kernel
theorem d144_1 : decode prog_12_method_12_code 1 = .ok (.iconst 0, 1) := by decide +kernel
theorem d144_2 : decode prog_12_method_12_code 2 = .ok (.iconst 2, 1) := by decide +kernel
theorem d144_3 : decode prog_12_method_12_code 3 = .ok (.invokestatic 89, 3) := by decide +kernel
theorem d144_6 : decode prog_12_method_12_code 6 = .ok (.ireturn, 1) := by decide +kernel
theorem d145_0 : decode prog_12_method_20_code 0 = .ok (.iconst 0, 1) := by decide +kernel
theorem d145_1 : decode prog_12_method_20_code 1 = .ok (.istore_n 2, 1) := by decide +kernel
theorem d145_2 : decode prog_12_method_20_code 2 = .ok (.iconst 0, 1) := by decide +kernel
theorem d145_3 : decode prog_12_method_20_code 3 = .ok (.istore_n 3, 1) := by decide +kernel
theorem d145_4 : decode prog_12_method_20_code 4 = .ok (.iload_n 3, 1) := by decide +kernel
theorem d145_5 : decode prog_12_method_20_code 5 = .ok (.aload_n 0, 1) := by decide +kernel
theorem d145_6 : decode prog_12_method_20_code 6 = .ok (.getfield 7, 3) := by decide +kernel
theorem d145_9 : decode prog_12_method_20_code 9 = .ok (.iconst 0, 1) := by decide +kernel
theorem d145_10 : decode prog_12_method_20_code 10 = .ok (.iaload, 1) := by decide +kernel
theorem d145_11 : decode prog_12_method_20_code 11 = .ok (.if_icmp .ge 30, 3) := by decide +kernel
theorem d145_14 : decode prog_12_method_20_code 14 = .ok (.iload_n 2, 1) := by decide +kernel
theorem d145_15 : decode prog_12_method_20_code 15 = .ok (.aload_n 0, 1) := by decide +kernel
theorem d145_16 : decode prog_12_method_20_code 16 = .ok (.iload_n 3, 1) := by decide +kernel
theorem d145_17 : decode prog_12_method_20_code 17 = .ok (.bipush 7, 2) := by decide +kernel
theorem d145_19 : decode prog_12_method_20_code 19 = .ok (.invokevirtual 85, 3) := by decide +kernel
theorem d145_22 : decode prog_12_method_20_code 22 = .ok (.iload_n 1, 1) := by decide +kernel
theorem d145_23 : decode prog_12_method_20_code 23 = .ok (.iconst 1, 1) := by decide +kernel
theorem d145_24 : decode prog_12_method_20_code 24 = .ok (.iadd, 1) := by decide +kernel
theorem d145_25 : decode prog_12_method_20_code 25 = .ok (.if_icmp .ne 7, 3) := by decide +kernel
theorem d145_28 : decode prog_12_method_20_code 28 = .ok (.iconst 1, 1) := by decide +kernel
theorem d145_29 : decode prog_12_method_20_code 29 = .ok (.goto 4, 3) := by decide +kernel
theorem d145_32 : decode prog_12_method_20_code 32 = .ok (.iconst 0, 1) := by decide +kernel
theorem d145_33 : decode prog_12_method_20_code 33 = .ok (.iadd, 1) := by decide +kernel
theorem d145_34 : decode prog_12_method_20_code 34 = .ok (.istore_n 2, 1) := by decide +kernel
theorem d145_35 : decode prog_12_method_20_code 35 = .ok (.iinc 3 1, 3) := by decide +kernel
theorem d145_38 : decode prog_12_method_20_code 38 = .ok (.goto (-34), 3) := by decide +kernel
theorem d145_41 : decode prog_12_method_20_code 41 = .ok (.iload_n 2, 1) := by decide +kernel
theorem d145_42 : decode prog_12_method_20_code 42 = .ok (.ireturn, 1) := by decide +kernel
theorem d146_0 : decode prog_12_method_22_code 0 = .ok (.aload_n 0, 1) := by decide +kernel
theorem d146_1 : decode prog_12_method_22_code 1 = .ok (.getfield 7, 3) := by decide +kernel
theorem d146_4 : decode prog_12_method_22_code 4 = .ok (.bipush 42, 2) := by decide +kernel
theorem d146_6 : decode prog_12_method_22_code 6 = .ok (.bipush 8, 2) := by decide +kernel
theorem d146_8 : decode prog_12_method_22_code 8 = .ok (.aload_n 0, 1) := by decide +kernel
theorem d146_9 : decode prog_12_method_22_code 9 = .ok (.iload_n 1, 1) := by decide +kernel
theorem d146_10 : decode prog_12_method_22_code 10 = .ok (.invokevirtual 117, 3) := by decide +kernel
theorem d146_13 : decode prog_12_method_22_code 13 = .ok (.imul, 1) := by decide +kernel
theorem d146_14 : decode prog_12_method_22_code 14 = .ok (.iadd, 1) := by decide +kernel
theorem d146_15 : decode prog_12_method_22_code 15 = .ok (.bipush 7, 2) := by decide +kernel
theorem d146_17 : decode prog_12_method_22_code 17 = .ok (.iadd, 1) := by decide +kernel
theorem d146_18 : decode prog_12_method_22_code 18 = .ok (.iload_n 2, 1) := by decide +kernel
theorem d146_19 : decode prog_12_method_22_code 19 = .ok (.iconst 1, 1) := by decide +kernel
theorem d146_20 : decode prog_12_method_22_code 20 = .ok (.iadd, 1) := by decide +kernel
theorem d146_21 : decode prog_12_method_22_code 21 = .ok (.iastore, 1) := by decide +kernel
theorem d146_22 : decode prog_12_method_22_code 22 = .ok (.aload_n 0, 1) := by decide +kernel
theorem d146_23 : decode prog_12_method_22_code 23 = .ok (.iload_n 2, 1) := by decide +kernel
theorem d146_24 : decode prog_12_method_22_code 24 = .ok (.invokevirtual 126, 3) := by decide +kernel
theorem d146_27 : decode prog_12_method_22_code 27 = .ok (.ireturn, 1) := by decide +kernel
theorem d147_0 : decode prog_12_method_26_code 0 = .ok (.aload_n 0, 1) := by decide +kernel
theorem d147_1 : decode prog_12_method_26_code 1 = .ok (.invokevirtual 100, 3) := by decide +kernel
theorem d147_4 : decode prog_12_method_26_code 4 = .ok (.aload_n 0, 1) := by decide +kernel
theorem d147_5 : decode prog_12_method_26_code 5 = .ok (.iload_n 1, 1) := by decide +kernel
theorem d147_6 : decode prog_12_method_26_code 6 = .ok (.invokevirtual 135, 3) := by decide +kernel
theorem d147_9 : decode prog_12_method_26_code 9 = .ok (.istore_n 2, 1) := by decide +kernel
theorem d147_10 : decode prog_12_method_26_code 10 = .ok (.iload_n 2, 1) := by decide +kernel
theorem d147_11 : decode prog_12_method_26_code 11 = .ok (.ifCond .le 11, 3) := by decide +kernel
theorem d147_14 : decode prog_12_method_26_code 14 = .ok (.aload_n 0, 1) := by decide +kernel
theorem d147_15 : decode prog_12_method_26_code 15 = .ok (.iload_n 2, 1) := by decide +kernel
theorem d147_16 : decode prog_12_method_26_code 16 = .ok (.invokevirtual 107, 3) := by decide +kernel
theorem d147_19 : decode prog_12_method_26_code 19 = .ok (.goto 12, 3) := by decide +kernel
theorem d147_22 : decode prog_12_method_26_code 22 = .ok (.aload_n 0, 1) := by decide +kernel
theorem d147_23 : decode prog_12_method_26_code 23 = .ok (.aload_n 0, 1) := by decide +kernel
theorem d147_24 : decode prog_12_method_26_code 24 = .ok (.iload_n 1, 1) := by decide +kernel
theorem d147_25 : decode prog_12_method_26_code 25 = .ok (.invokevirtual 138, 3) := by decide +kernel
theorem d147_28 : decode prog_12_method_26_code 28 = .ok (.invokevirtual 114, 3) := by decide +kernel
theorem d147_31 : decode prog_12_method_26_code 31 = .ok (.ireturn, 1) := by decide +kernel
theorem d148_0 : decode prog_12_method_24_code 0 = .ok (.aload_n 0, 1) := by decide +kernel
theorem d148_1 : decode prog_12_method_24_code 1 = .ok (.iload_n 1, 1) := by decide +kernel
theorem d148_2 : decode prog_12_method_24_code 2 = .ok (.invokevirtual 117, 3) := by decide +kernel
theorem d148_5 : decode prog_12_method_24_code 5 = .ok (.ifCond .ge 7, 3) := by decide +kernel
theorem d148_8 : decode prog_12_method_24_code 8 = .ok (.iconst 1, 1) := by decide +kernel
theorem d148_9 : decode prog_12_method_24_code 9 = .ok (.goto 22, 3) := by decide +kernel
theorem d148_12 : decode prog_12_method_24_code 12 = .ok (.aload_n 0, 1) := by decide +kernel
theorem d148_13 : decode prog_12_method_24_code 13 = .ok (.aload_n 0, 1) := by decide +kernel
theorem d148_14 : decode prog_12_method_24_code 14 = .ok (.iload_n 1, 1) := by decide +kernel
theorem d148_15 : decode prog_12_method_24_code 15 = .ok (.invokevirtual 117, 3) := by decide +kernel
theorem d148_18 : decode prog_12_method_24_code 18 = .ok (.bipush 7, 2) := by decide +kernel
theorem d148_20 : decode prog_12_method_24_code 20 = .ok (.invokevirtual 85, 3) := by decide +kernel
theorem d148_23 : decode prog_12_method_24_code 23 = .ok (.ifCond .ne 7, 3) := by decide +kernel
theorem d148_26 : decode prog_12_method_24_code 26 = .ok (.iconst 2, 1) := by decide +kernel
theorem d148_27 : decode prog_12_method_24_code 27 = .ok (.goto 4, 3) := by decide +kernel
theorem d148_30 : decode prog_12_method_24_code 30 = .ok (.iconst 0, 1) := by decide +kernel
theorem d148_31 : decode prog_12_method_24_code 31 = .ok (.ireturn, 1) := by decide +kernel
theorem d149_0 : decode prog_12_method_25_code 0 = .ok (.aload_n 0, 1) := by decide +kernel
theorem d149_1 : decode prog_12_method_25_code 1 = .ok (.aload_n 0, 1) := by decide +kernel
theorem d149_2 : decode prog_12_method_25_code 2 = .ok (.iload_n 1, 1) := by decide +kernel
theorem d149_3 : decode prog_12_method_25_code 3 = .ok (.invokevirtual 117, 3) := by decide +kernel
theorem d149_6 : decode prog_12_method_25_code 6 = .ok (.bipush 7, 2) := by decide +kernel
theorem d149_8 : decode prog_12_method_25_code 8 = .ok (.invokevirtual 85, 3) := by decide +kernel
theorem d149_11 : decode prog_12_method_25_code 11 = .ok (.iconst 1, 1) := by decide +kernel
theorem d149_12 : decode prog_12_method_25_code 12 = .ok (.isub, 1) := by decide +kernel
theorem d149_13 : decode prog_12_method_25_code 13 = .ok (.istore_n 2, 1) := by decide +kernel
theorem d149_14 : decode prog_12_method_25_code 14 = .ok (.aload_n 0, 1) := by decide +kernel
theorem d149_15 : decode prog_12_method_25_code 15 = .ok (.getfield 7, 3) := by decide +kernel
theorem d149_18 : decode prog_12_method_25_code 18 = .ok (.bipush 42, 2) := by decide +kernel
theorem d149_20 : decode prog_12_method_25_code 20 = .ok (.bipush 8, 2) := by decide +kernel
theorem d149_22 : decode prog_12_method_25_code 22 = .ok (.aload_n 0, 1) := by decide +kernel
theorem d149_23 : decode prog_12_method_25_code 23 = .ok (.iload_n 1, 1) := by decide +kernel
theorem d149_24 : decode prog_12_method_25_code 24 = .ok (.invokevirtual 117, 3) := by decide +kernel
theorem d149_27 : decode prog_12_method_25_code 27 = .ok (.imul, 1) := by decide +kernel
theorem d149_28 : decode prog_12_method_25_code 28 = .ok (.iadd, 1) := by decide +kernel
theorem d149_29 : decode prog_12_method_25_code 29 = .ok (.bipush 7, 2) := by decide +kernel
theorem d149_31 : decode prog_12_method_25_code 31 = .ok (.iadd, 1) := by decide +kernel
theorem d149_32 : decode prog_12_method_25_code 32 = .ok (.iconst 0, 1) := by decide +kernel
theorem d149_33 : decode prog_12_method_25_code 33 = .ok (.iastore, 1) := by decide +kernel
theorem d149_34 : decode prog_12_method_25_code 34 = .ok (.iload_n 2, 1) := by decide +kernel
theorem d149_35 : decode prog_12_method_25_code 35 = .ok (.ireturn, 1) := by decide +kernel
theorem d150_0 : decode prog_12_method_29_code 0 = .ok (.aload_n 0, 1) := by decide +kernel
theorem d150_1 : decode prog_12_method_29_code 1 = .ok (.invokevirtual 100, 3) := by decide +kernel
theorem d150_4 : decode prog_12_method_29_code 4 = .ok (.aload_n 0, 1) := by decide +kernel
theorem d150_5 : decode prog_12_method_29_code 5 = .ok (.iload_n 1, 1) := by decide +kernel
theorem d150_6 : decode prog_12_method_29_code 6 = .ok (.iload_n 2, 1) := by decide +kernel
theorem d150_7 : decode prog_12_method_29_code 7 = .ok (.invokevirtual 141, 3) := by decide +kernel
theorem d150_10 : decode prog_12_method_29_code 10 = .ok (.istore_n 3, 1) := by decide +kernel
theorem d150_11 : decode prog_12_method_29_code 11 = .ok (.iload_n 3, 1) := by decide +kernel
theorem d150_12 : decode prog_12_method_29_code 12 = .ok (.ifCond .le 11, 3) := by decide +kernel
theorem d150_15 : decode prog_12_method_29_code 15 = .ok (.aload_n 0, 1) := by decide +kernel
theorem d150_16 : decode prog_12_method_29_code 16 = .ok (.iload_n 3, 1) := by decide +kernel
theorem d150_17 : decode prog_12_method_29_code 17 = .ok (.invokevirtual 107, 3) := by decide +kernel
theorem d150_20 : decode prog_12_method_29_code 20 = .ok (.goto 13, 3) := by decide +kernel
theorem d150_23 : decode prog_12_method_29_code 23 = .ok (.aload_n 0, 1) := by decide +kernel
theorem d150_24 : decode prog_12_method_29_code 24 = .ok (.aload_n 0, 1) := by decide +kernel
theorem d150_25 : decode prog_12_method_29_code 25 = .ok (.iload_n 1, 1) := by decide +kernel
theorem d150_26 : decode prog_12_method_29_code 26 = .ok (.iload_n 2, 1) := by decide +kernel
theorem d150_27 : decode prog_12_method_29_code 27 = .ok (.invokevirtual 144, 3) := by decide +kernel
theorem d150_30 : decode prog_12_method_29_code 30 = .ok (.invokevirtual 114, 3) := by decide +kernel
theorem d150_33 : decode prog_12_method_29_code 33 = .ok (.ireturn, 1) := by decide +kernel
theorem d151_0 : decode prog_12_method_27_code 0 = .ok (.iload_n 1, 1) := by decide +kernel
theorem d151_1 : decode prog_12_method_27_code 1 = .ok (.invokestatic 93, 3) := by decide +kernel
theorem d151_4 : decode prog_12_method_27_code 4 = .ok (.ifCond .eq 13, 3) := by decide +kernel
theorem d151_7 : decode prog_12_method_27_code 7 = .ok (.iload_n 2, 1) := by decide +kernel
theorem d151_8 : decode prog_12_method_27_code 8 = .ok (.iconst 1, 1) := by decide +kernel
theorem d151_9 : decode prog_12_method_27_code 9 = .ok (.bipush 99, 2) := by decide +kernel
theorem d151_11 : decode prog_12_method_27_code 11 = .ok (.invokestatic 89, 3) := by decide +kernel
theorem d151_14 : decode prog_12_method_27_code 14 = .ok (.ifCond .ne 7, 3) := by decide +kernel
theorem d151_17 : decode prog_12_method_27_code 17 = .ok (.iconst 1, 1) := by decide +kernel
theorem d151_18 : decode prog_12_method_27_code 18 = .ok (.goto 27, 3) := by decide +kernel
theorem d151_21 : decode prog_12_method_27_code 21 = .ok (.aload_n 0, 1) := by decide +kernel
theorem d151_22 : decode prog_12_method_27_code 22 = .ok (.getfield 7, 3) := by decide +kernel
theorem d151_25 : decode prog_12_method_27_code 25 = .ok (.bipush 8, 2) := by decide +kernel
theorem d151_27 : decode prog_12_method_27_code 27 = .ok (.iload_n 1, 1) := by decide +kernel
theorem d151_28 : decode prog_12_method_27_code 28 = .ok (.iadd, 1) := by decide +kernel
theorem d151_29 : decode prog_12_method_27_code 29 = .ok (.bipush 97, 2) := by decide +kernel
theorem d151_31 : decode prog_12_method_27_code 31 = .ok (.isub, 1) := by decide +kernel
theorem d151_32 : decode prog_12_method_27_code 32 = .ok (.iaload, 1) := by decide +kernel
theorem d151_33 : decode prog_12_method_27_code 33 = .ok (.iload_n 2, 1) := by decide +kernel
theorem d151_34 : decode prog_12_method_27_code 34 = .ok (.iadd, 1) := by decide +kernel
theorem d151_35 : decode prog_12_method_27_code 35 = .ok (.bipush 99, 2) := by decide +kernel
theorem d151_37 : decode prog_12_method_27_code 37 = .ok (.if_icmp .le 7, 3) := by decide +kernel
theorem d151_40 : decode prog_12_method_27_code 40 = .ok (.iconst 2, 1) := by decide +kernel
theorem d151_41 : decode prog_12_method_27_code 41 = .ok (.goto 4, 3) := by decide +kernel
theorem d151_44 : decode prog_12_method_27_code 44 = .ok (.iconst 0, 1) := by decide +kernel
theorem d151_45 : decode prog_12_method_27_code 45 = .ok (.ireturn, 1) := by decide +kernel
theorem d152_0 : decode prog_12_method_28_code 0 = .ok (.aload_n 0, 1) := by decide +kernel
theorem d152_1 : decode prog_12_method_28_code 1 = .ok (.getfield 7, 3) := by decide +kernel
theorem d152_4 : decode prog_12_method_28_code 4 = .ok (.bipush 8, 2) := by decide +kernel
theorem d152_6 : decode prog_12_method_28_code 6 = .ok (.iload_n 1, 1) := by decide +kernel
theorem d152_7 : decode prog_12_method_28_code 7 = .ok (.iadd, 1) := by decide +kernel
theorem d152_8 : decode prog_12_method_28_code 8 = .ok (.bipush 97, 2) := by decide +kernel
theorem d152_10 : decode prog_12_method_28_code 10 = .ok (.isub, 1) := by decide +kernel
theorem d152_11 : decode prog_12_method_28_code 11 = .ok (.dup2, 1) := by decide +kernel
theorem d152_12 : decode prog_12_method_28_code 12 = .ok (.iaload, 1) := by decide +kernel
theorem d152_13 : decode prog_12_method_28_code 13 = .ok (.iload_n 2, 1) := by decide +kernel
theorem d152_14 : decode prog_12_method_28_code 14 = .ok (.iadd, 1) := by decide +kernel
theorem d152_15 : decode prog_12_method_28_code 15 = .ok (.iastore, 1) := by decide +kernel
theorem d152_16 : decode prog_12_method_28_code 16 = .ok (.aload_n 0, 1) := by decide +kernel
theorem d152_17 : decode prog_12_method_28_code 17 = .ok (.getfield 7, 3) := by decide +kernel
theorem d152_20 : decode prog_12_method_28_code 20 = .ok (.bipush 8, 2) := by decide +kernel
theorem d152_22 : decode prog_12_method_28_code 22 = .ok (.iload_n 1, 1) := by decide +kernel
theorem d152_23 : decode prog_12_method_28_code 23 = .ok (.iadd, 1) := by decide +kernel
theorem d152_24 : decode prog_12_method_28_code 24 = .ok (.bipush 97, 2) := by decide +kernel
theorem d152_26 : decode prog_12_method_28_code 26 = .ok (.isub, 1) := by decide +kernel
theorem d152_27 : decode prog_12_method_28_code 27 = .ok (.iaload, 1) := by decide +kernel
theorem d152_28 : decode prog_12_method_28_code 28 = .ok (.ireturn, 1) := by decide +kernel
theorem d153_0 : decode prog_12_method_34_code 0 = .ok (.aload_n 0, 1) := by decide +kernel
theorem d153_1 : decode prog_12_method_34_code 1 = .ok (.invokevirtual 100, 3) := by decide +kernel
theorem d153_4 : decode prog_12_method_34_code 4 = .ok (.aload_n 0, 1) := by decide +kernel
theorem d153_5 : decode prog_12_method_34_code 5 = .ok (.iload_n 1, 1) := by decide +kernel
theorem d153_6 : decode prog_12_method_34_code 6 = .ok (.iload_n 2, 1) := by decide +kernel
theorem d153_7 : decode prog_12_method_34_code 7 = .ok (.iload_n 3, 1) := by decide +kernel
theorem d153_8 : decode prog_12_method_34_code 8 = .ok (.invokevirtual 160, 3) := by decide +kernel
theorem d153_11 : decode prog_12_method_34_code 11 = .ok (.istore 4, 2) := by decide +kernel
theorem d153_13 : decode prog_12_method_34_code 13 = .ok (.iload 4, 2) := by decide +kernel
theorem d153_15 : decode prog_12_method_34_code 15 = .ok (.ifCond .le 12, 3) := by decide +kernel
theorem d153_18 : decode prog_12_method_34_code 18 = .ok (.aload_n 0, 1) := by decide +kernel
theorem d153_19 : decode prog_12_method_34_code 19 = .ok (.iload 4, 2) := by decide +kernel
theorem d153_21 : decode prog_12_method_34_code 21 = .ok (.invokevirtual 107, 3) := by decide +kernel
theorem d153_24 : decode prog_12_method_34_code 24 = .ok (.goto 14, 3) := by decide +kernel
theorem d153_27 : decode prog_12_method_34_code 27 = .ok (.aload_n 0, 1) := by decide +kernel
theorem d153_28 : decode prog_12_method_34_code 28 = .ok (.aload_n 0, 1) := by decide +kernel
theorem d153_29 : decode prog_12_method_34_code 29 = .ok (.iload_n 1, 1) := by decide +kernel
theorem d153_30 : decode prog_12_method_34_code 30 = .ok (.iload_n 2, 1) := by decide +kernel
theorem d153_31 : decode prog_12_method_34_code 31 = .ok (.iload_n 3, 1) := by decide +kernel
theorem d153_32 : decode prog_12_method_34_code 32 = .ok (.invokevirtual 164, 3) := by decide +kernel
theorem d153_35 : decode prog_12_method_34_code 35 = .ok (.invokevirtual 114, 3) := by decide +kernel
theorem d153_38 : decode prog_12_method_34_code 38 = .ok (.ireturn, 1) := by decide +kernel
theorem d154_0 : decode prog_12_method_32_code 0 = .ok (.iload_n 1, 1) := by decide +kernel
theorem d154_1 : decode prog_12_method_32_code 1 = .ok (.invokestatic 123, 3) := by decide +kernel
theorem d154_4 : decode prog_12_method_32_code 4 = .ok (.ifCond .ne 5, 3) := by decide +kernel
theorem d154_7 : decode prog_12_method_32_code 7 = .ok (.iconst 1, 1) := by decide +kernel
theorem d154_8 : decode prog_12_method_32_code 8 = .ok (.ireturn, 1) := by decide +kernel
theorem d154_9 : decode prog_12_method_32_code 9 = .ok (.iload_n 2, 1) := by decide +kernel
theorem d154_10 : decode prog_12_method_32_code 10 = .ok (.invokestatic 93, 3) := by decide +kernel
theorem d154_13 : decode prog_12_method_32_code 13 = .ok (.ifCond .eq 13, 3) := by decide +kernel
theorem d154_16 : decode prog_12_method_32_code 16 = .ok (.iload_n 3, 1) := by decide +kernel
theorem d154_17 : decode prog_12_method_32_code 17 = .ok (.iconst 1, 1) := by decide +kernel
theorem d154_18 : decode prog_12_method_32_code 18 = .ok (.bipush 10, 2) := by decide +kernel
theorem d154_20 : decode prog_12_method_32_code 20 = .ok (.invokestatic 89, 3) := by decide +kernel
theorem d154_23 : decode prog_12_method_32_code 23 = .ok (.ifCond .ne 5, 3) := by decide +kernel
theorem d154_26 : decode prog_12_method_32_code 26 = .ok (.iconst 2, 1) := by decide +kernel
theorem d154_27 : decode prog_12_method_32_code 27 = .ok (.ireturn, 1) := by decide +kernel
theorem d154_28 : decode prog_12_method_32_code 28 = .ok (.aload_n 0, 1) := by decide +kernel
theorem d154_29 : decode prog_12_method_32_code 29 = .ok (.iload_n 1, 1) := by decide +kernel
theorem d154_30 : decode prog_12_method_32_code 30 = .ok (.invokevirtual 150, 3) := by decide +kernel
theorem d154_33 : decode prog_12_method_32_code 33 = .ok (.ifCond .eq 15, 3) := by decide +kernel
theorem d154_36 : decode prog_12_method_32_code 36 = .ok (.aload_n 0, 1) := by decide +kernel
theorem d154_37 : decode prog_12_method_32_code 37 = .ok (.iload_n 1, 1) := by decide +kernel
theorem d154_38 : decode prog_12_method_32_code 38 = .ok (.invokevirtual 153, 3) := by decide +kernel
theorem d154_41 : decode prog_12_method_32_code 41 = .ok (.iload_n 3, 1) := by decide +kernel
theorem d154_42 : decode prog_12_method_32_code 42 = .ok (.iadd, 1) := by decide +kernel
theorem d154_43 : decode prog_12_method_32_code 43 = .ok (.bipush 10, 2) := by decide +kernel
theorem d154_45 : decode prog_12_method_32_code 45 = .ok (.if_icmp .le 5, 3) := by decide +kernel
theorem d154_48 : decode prog_12_method_32_code 48 = .ok (.iconst 3, 1) := by decide +kernel
theorem d154_49 : decode prog_12_method_32_code 49 = .ok (.ireturn, 1) := by decide +kernel
theorem d154_50 : decode prog_12_method_32_code 50 = .ok (.aload_n 0, 1) := by decide +kernel
theorem d154_51 : decode prog_12_method_32_code 51 = .ok (.getfield 7, 3) := by decide +kernel
theorem d154_54 : decode prog_12_method_32_code 54 = .ok (.bipush 8, 2) := by decide +kernel
theorem d154_56 : decode prog_12_method_32_code 56 = .ok (.iload_n 2, 1) := by decide +kernel
theorem d154_57 : decode prog_12_method_32_code 57 = .ok (.iadd, 1) := by decide +kernel
theorem d154_58 : decode prog_12_method_32_code 58 = .ok (.bipush 97, 2) := by decide +kernel
theorem d154_60 : decode prog_12_method_32_code 60 = .ok (.isub, 1) := by decide +kernel
theorem d154_61 : decode prog_12_method_32_code 61 = .ok (.iaload, 1) := by decide +kernel
theorem d154_62 : decode prog_12_method_32_code 62 = .ok (.iload_n 3, 1) := by decide +kernel
theorem d154_63 : decode prog_12_method_32_code 63 = .ok (.if_icmp .ge 7, 3) := by decide +kernel
theorem d154_66 : decode prog_12_method_32_code 66 = .ok (.iconst 4, 1) := by decide +kernel
theorem d154_67 : decode prog_12_method_32_code 67 = .ok (.goto 4, 3) := by decide +kernel
theorem d154_70 : decode prog_12_method_32_code 70 = .ok (.iconst 0, 1) := by decide +kernel
theorem d154_71 : decode prog_12_method_32_code 71 = .ok (.ireturn, 1) := by decide +kernel
theorem d155_0 : decode prog_12_method_30_code 0 = .ok (.aload_n 0, 1) := by decide +kernel
theorem d155_1 : decode prog_12_method_30_code 1 = .ok (.iload_n 1, 1) := by decide +kernel
theorem d155_2 : decode prog_12_method_30_code 2 = .ok (.iconst 0, 1) := by decide +kernel
theorem d155_3 : decode prog_12_method_30_code 3 = .ok (.invokevirtual 147, 3) := by decide +kernel
theorem d155_6 : decode prog_12_method_30_code 6 = .ok (.ifCond .ne 16, 3) := by decide +kernel
theorem d155_9 : decode prog_12_method_30_code 9 = .ok (.aload_n 0, 1) := by decide +kernel
theorem d155_10 : decode prog_12_method_30_code 10 = .ok (.iload_n 1, 1) := by decide +kernel
theorem d155_11 : decode prog_12_method_30_code 11 = .ok (.iconst 1, 1) := by decide +kernel
theorem d155_12 : decode prog_12_method_30_code 12 = .ok (.invokevirtual 147, 3) := by decide +kernel
theorem d155_15 : decode prog_12_method_30_code 15 = .ok (.ifCond .ne 7, 3) := by decide +kernel
theorem d155_18 : decode prog_12_method_30_code 18 = .ok (.iconst 1, 1) := by decide +kernel
theorem d155_19 : decode prog_12_method_30_code 19 = .ok (.goto 4, 3) := by decide +kernel
theorem d155_22 : decode prog_12_method_30_code 22 = .ok (.iconst 0, 1) := by decide +kernel
theorem d155_23 : decode prog_12_method_30_code 23 = .ok (.ireturn, 1) := by decide +kernel
theorem d156_0 : decode prog_12_method_9_code 0 = .ok (.aload_n 0, 1) := by decide +kernel
theorem d156_1 : decode prog_12_method_9_code 1 = .ok (.getfield 7, 3) := by decide +kernel
theorem d156_4 : decode prog_12_method_9_code 4 = .ok (.bipush 18, 2) := by decide +kernel
theorem d156_6 : decode prog_12_method_9_code 6 = .ok (.bipush 8, 2) := by decide +kernel
theorem d156_8 : decode prog_12_method_9_code 8 = .ok (.iload_n 1, 1) := by decide +kernel
theorem d156_9 : decode prog_12_method_9_code 9 = .ok (.imul, 1) := by decide +kernel
theorem d156_10 : decode prog_12_method_9_code 10 = .ok (.iadd, 1) := by decide +kernel
theorem d156_11 : decode prog_12_method_9_code 11 = .ok (.iload_n 2, 1) := by decide +kernel
theorem d156_12 : decode prog_12_method_9_code 12 = .ok (.iadd, 1) := by decide +kernel
theorem d156_13 : decode prog_12_method_9_code 13 = .ok (.iaload, 1) := by decide +kernel
theorem d156_14 : decode prog_12_method_9_code 14 = .ok (.ireturn, 1) := by decide +kernel
theorem d157_0 : decode prog_12_method_31_code 0 = .ok (.aload_n 0, 1) := by decide +kernel
theorem d157_1 : decode prog_12_method_31_code 1 = .ok (.iload_n 1, 1) := by decide +kernel
theorem d157_2 : decode prog_12_method_31_code 2 = .ok (.iconst 4, 1) := by decide +kernel
theorem d157_3 : decode prog_12_method_31_code 3 = .ok (.invokevirtual 147, 3) := by decide +kernel
theorem d157_6 : decode prog_12_method_31_code 6 = .ok (.aload_n 0, 1) := by decide +kernel
theorem d157_7 : decode prog_12_method_31_code 7 = .ok (.iload_n 1, 1) := by decide +kernel
theorem d157_8 : decode prog_12_method_31_code 8 = .ok (.iconst 5, 1) := by decide +kernel
theorem d157_9 : decode prog_12_method_31_code 9 = .ok (.invokevirtual 147, 3) := by decide +kernel
theorem d157_12 : decode prog_12_method_31_code 12 = .ok (.iadd, 1) := by decide +kernel
theorem d157_13 : decode prog_12_method_31_code 13 = .ok (.aload_n 0, 1) := by decide +kernel
theorem d157_14 : decode prog_12_method_31_code 14 = .ok (.iload_n 1, 1) := by decide +kernel
theorem d157_15 : decode prog_12_method_31_code 15 = .ok (.bipush 6, 2) := by decide +kernel
theorem d157_17 : decode prog_12_method_31_code 17 = .ok (.invokevirtual 147, 3) := by decide +kernel
theorem d157_20 : decode prog_12_method_31_code 20 = .ok (.iadd, 1) := by decide +kernel
theorem d157_21 : decode prog_12_method_31_code 21 = .ok (.aload_n 0, 1) := by decide +kernel
theorem d157_22 : decode prog_12_method_31_code 22 = .ok (.iload_n 1, 1) := by decide +kernel
theorem d157_23 : decode prog_12_method_31_code 23 = .ok (.bipush 7, 2) := by decide +kernel
theorem d157_25 : decode prog_12_method_31_code 25 = .ok (.invokevirtual 147, 3) := by decide +kernel
theorem d157_28 : decode prog_12_method_31_code 28 = .ok (.iadd, 1) := by decide +kernel
theorem d157_29 : decode prog_12_method_31_code 29 = .ok (.ireturn, 1) := by decide +kernel
theorem d158_0 : decode prog_12_method_33_code 0 = .ok (.aload_n 0, 1) := by decide +kernel
theorem d158_1 : decode prog_12_method_33_code 1 = .ok (.getfield 7, 3) := by decide +kernel
theorem d158_4 : decode prog_12_method_33_code 4 = .ok (.bipush 8, 2) := by decide +kernel
theorem d158_6 : decode prog_12_method_33_code 6 = .ok (.iload_n 2, 1) := by decide +kernel
theorem d158_7 : decode prog_12_method_33_code 7 = .ok (.iadd, 1) := by decide +kernel
theorem d158_8 : decode prog_12_method_33_code 8 = .ok (.bipush 97, 2) := by decide +kernel
theorem d158_10 : decode prog_12_method_33_code 10 = .ok (.isub, 1) := by decide +kernel
theorem d158_11 : decode prog_12_method_33_code 11 = .ok (.dup2, 1) := by decide +kernel
theorem d158_12 : decode prog_12_method_33_code 12 = .ok (.iaload, 1) := by decide +kernel
theorem d158_13 : decode prog_12_method_33_code 13 = .ok (.iload_n 3, 1) := by decide +kernel
theorem d158_14 : decode prog_12_method_33_code 14 = .ok (.isub, 1) := by decide +kernel
theorem d158_15 : decode prog_12_method_33_code 15 = .ok (.iastore, 1) := by decide +kernel
theorem d158_16 : decode prog_12_method_33_code 16 = .ok (.aload_n 0, 1) := by decide +kernel
theorem d158_17 : decode prog_12_method_33_code 17 = .ok (.iload_n 1, 1) := by decide +kernel
theorem d158_18 : decode prog_12_method_33_code 18 = .ok (.iconst 4, 1) := by decide +kernel
theorem d158_19 : decode prog_12_method_33_code 19 = .ok (.iload_n 2, 1) := by decide +kernel
theorem d158_20 : decode prog_12_method_33_code 20 = .ok (.iadd, 1) := by decide +kernel
theorem d158_21 : decode prog_12_method_33_code 21 = .ok (.bipush 97, 2) := by decide +kernel
theorem d158_23 : decode prog_12_method_33_code 23 = .ok (.isub, 1) := by decide +kernel
theorem d158_24 : decode prog_12_method_33_code 24 = .ok (.aload_n 0, 1) := by decide +kernel
theorem d158_25 : decode prog_12_method_33_code 25 = .ok (.iload_n 1, 1) := by decide +kernel
theorem d158_26 : decode prog_12_method_33_code 26 = .ok (.iconst 4, 1) := by decide +kernel
theorem d158_27 : decode prog_12_method_33_code 27 = .ok (.iload_n 2, 1) := by decide +kernel
theorem d158_28 : decode prog_12_method_33_code 28 = .ok (.iadd, 1) := by decide +kernel
theorem d158_29 : decode prog_12_method_33_code 29 = .ok (.bipush 97, 2) := by decide +kernel
theorem d158_31 : decode prog_12_method_33_code 31 = .ok (.isub, 1) := by decide +kernel
theorem d158_32 : decode prog_12_method_33_code 32 = .ok (.invokevirtual 147, 3) := by decide +kernel
theorem d158_35 : decode prog_12_method_33_code 35 = .ok (.iload_n 3, 1) := by decide +kernel
theorem d158_36 : decode prog_12_method_33_code 36 = .ok (.iadd, 1) := by decide +kernel
theorem d158_37 : decode prog_12_method_33_code 37 = .ok (.invokevirtual 156, 3) := by decide +kernel
theorem d158_40 : decode prog_12_method_33_code 40 = .ok (.aload_n 0, 1) := by decide +kernel
theorem d158_41 : decode prog_12_method_33_code 41 = .ok (.iload_n 1, 1) := by decide +kernel
theorem d158_42 : decode prog_12_method_33_code 42 = .ok (.invokevirtual 153, 3) := by decide +kernel
theorem d158_45 : decode prog_12_method_33_code 45 = .ok (.ireturn, 1) := by decide +kernel
theorem d159_0 : decode prog_12_method_10_code 0 = .ok (.aload_n 0, 1) := by decide +kernel
theorem d159_1 : decode prog_12_method_10_code 1 = .ok (.getfield 7, 3) := by decide +kernel
theorem d159_4 : decode prog_12_method_10_code 4 = .ok (.bipush 18, 2) := by decide +kernel
theorem d159_6 : decode prog_12_method_10_code 6 = .ok (.bipush 8, 2) := by decide +kernel
theorem d159_8 : decode prog_12_method_10_code 8 = .ok (.iload_n 1, 1) := by decide +kernel
theorem d159_9 : decode prog_12_method_10_code 9 = .ok (.imul, 1) := by decide +kernel
theorem d159_10 : decode prog_12_method_10_code 10 = .ok (.iadd, 1) := by decide +kernel
theorem d159_11 : decode prog_12_method_10_code 11 = .ok (.iload_n 2, 1) := by decide +kernel
theorem d159_12 : decode prog_12_method_10_code 12 = .ok (.iadd, 1) := by decide +kernel
theorem d159_13 : decode prog_12_method_10_code 13 = .ok (.iload_n 3, 1) := by decide +kernel
theorem d159_14 : decode prog_12_method_10_code 14 = .ok (.iastore, 1) := by decide +kernel
theorem d159_15 : decode prog_12_method_10_code 15 = .ok (.return_, 1) := by decide +kernel
theorem d160_0 : decode prog_12_method_38_code 0 = .ok (.aload_n 0, 1) := by decide +kernel
theorem d160_1 : decode prog_12_method_38_code 1 = .ok (.invokevirtual 100, 3) := by decide +kernel
theorem d160_4 : decode prog_12_method_38_code 4 = .ok (.aload_n 0, 1) := by decide +kernel
theorem d160_5 : decode prog_12_method_38_code 5 = .ok (.iload_n 1, 1) := by decide +kernel
theorem d160_6 : decode prog_12_method_38_code 6 = .ok (.iload_n 2, 1) := by decide +kernel
theorem d160_7 : decode prog_12_method_38_code 7 = .ok (.iconst 0, 1) := by decide +kernel
theorem d160_8 : decode prog_12_method_38_code 8 = .ok (.invokevirtual 170, 3) := by decide +kernel
theorem d160_11 : decode prog_12_method_38_code 11 = .ok (.istore_n 3, 1) := by decide +kernel
theorem d160_12 : decode prog_12_method_38_code 12 = .ok (.iload_n 3, 1) := by decide +kernel
theorem d160_13 : decode prog_12_method_38_code 13 = .ok (.ifCond .le 11, 3) := by decide +kernel
theorem d160_16 : decode prog_12_method_38_code 16 = .ok (.aload_n 0, 1) := by decide +kernel
theorem d160_17 : decode prog_12_method_38_code 17 = .ok (.iload_n 3, 1) := by decide +kernel
theorem d160_18 : decode prog_12_method_38_code 18 = .ok (.invokevirtual 107, 3) := by decide +kernel
theorem d160_21 : decode prog_12_method_38_code 21 = .ok (.goto 16, 3) := by decide +kernel
theorem d160_24 : decode prog_12_method_38_code 24 = .ok (.aload_n 0, 1) := by decide +kernel
theorem d160_25 : decode prog_12_method_38_code 25 = .ok (.aload_n 0, 1) := by decide +kernel
theorem d160_26 : decode prog_12_method_38_code 26 = .ok (.iload_n 1, 1) := by decide +kernel
theorem d160_27 : decode prog_12_method_38_code 27 = .ok (.iload_n 2, 1) := by decide +kernel
theorem d160_28 : decode prog_12_method_38_code 28 = .ok (.iload_n 1, 1) := by decide +kernel
theorem d160_29 : decode prog_12_method_38_code 29 = .ok (.iconst 1, 1) := by decide +kernel
theorem d160_30 : decode prog_12_method_38_code 30 = .ok (.iadd, 1) := by decide +kernel
theorem d160_31 : decode prog_12_method_38_code 31 = .ok (.invokevirtual 173, 3) := by decide +kernel
theorem d160_34 : decode prog_12_method_38_code 34 = .ok (.invokevirtual 114, 3) := by decide +kernel
theorem d160_37 : decode prog_12_method_38_code 37 = .ok (.ireturn, 1) := by decide +kernel
theorem d161_0 : decode prog_12_method_36_code 0 = .ok (.iload_n 1, 1) := by decide +kernel
theorem d161_1 : decode prog_12_method_36_code 1 = .ok (.invokestatic 123, 3) := by decide +kernel
theorem d161_4 : decode prog_12_method_36_code 4 = .ok (.ifCond .eq 10, 3) := by decide +kernel
theorem d161_7 : decode prog_12_method_36_code 7 = .ok (.iload_n 2, 1) := by decide +kernel
theorem d161_8 : decode prog_12_method_36_code 8 = .ok (.invokestatic 97, 3) := by decide +kernel
theorem d161_11 : decode prog_12_method_36_code 11 = .ok (.ifCond .ne 7, 3) := by decide +kernel
theorem d161_14 : decode prog_12_method_36_code 14 = .ok (.iconst 1, 1) := by decide +kernel
theorem d161_15 : decode prog_12_method_36_code 15 = .ok (.goto 29, 3) := by decide +kernel
theorem d161_18 : decode prog_12_method_36_code 18 = .ok (.aload_n 0, 1) := by decide +kernel
theorem d161_19 : decode prog_12_method_36_code 19 = .ok (.iload_n 1, 1) := by decide +kernel
theorem d161_20 : decode prog_12_method_36_code 20 = .ok (.invokevirtual 150, 3) := by decide +kernel
theorem d161_23 : decode prog_12_method_36_code 23 = .ok (.ifCond .eq 16, 3) := by decide +kernel
theorem d161_26 : decode prog_12_method_36_code 26 = .ok (.aload_n 0, 1) := by decide +kernel
theorem d161_27 : decode prog_12_method_36_code 27 = .ok (.getfield 7, 3) := by decide +kernel
theorem d161_30 : decode prog_12_method_36_code 30 = .ok (.bipush 12, 2) := by decide +kernel
theorem d161_32 : decode prog_12_method_36_code 32 = .ok (.iload_n 2, 1) := by decide +kernel
theorem d161_33 : decode prog_12_method_36_code 33 = .ok (.iadd, 1) := by decide +kernel
theorem d161_34 : decode prog_12_method_36_code 34 = .ok (.iaload, 1) := by decide +kernel
theorem d161_35 : decode prog_12_method_36_code 35 = .ok (.iload_n 3, 1) := by decide +kernel
theorem d161_36 : decode prog_12_method_36_code 36 = .ok (.if_icmp .eq 7, 3) := by decide +kernel
theorem d161_39 : decode prog_12_method_36_code 39 = .ok (.iconst 2, 1) := by decide +kernel
theorem d161_40 : decode prog_12_method_36_code 40 = .ok (.goto 4, 3) := by decide +kernel
theorem d161_43 : decode prog_12_method_36_code 43 = .ok (.iconst 0, 1) := by decide +kernel
theorem d161_44 : decode prog_12_method_36_code 44 = .ok (.ireturn, 1) := by decide +kernel
theorem d162_0 : decode prog_12_method_37_code 0 = .ok (.aload_n 0, 1) := by decide +kernel
theorem d162_1 : decode prog_12_method_37_code 1 = .ok (.getfield 7, 3) := by decide +kernel
theorem d162_4 : decode prog_12_method_37_code 4 = .ok (.bipush 12, 2) := by decide +kernel
theorem d162_6 : decode prog_12_method_37_code 6 = .ok (.iload_n 2, 1) := by decide +kernel
theorem d162_7 : decode prog_12_method_37_code 7 = .ok (.iadd, 1) := by decide +kernel
theorem d162_8 : decode prog_12_method_37_code 8 = .ok (.iload_n 3, 1) := by decide +kernel
theorem d162_9 : decode prog_12_method_37_code 9 = .ok (.iastore, 1) := by decide +kernel
theorem d162_10 : decode prog_12_method_37_code 10 = .ok (.aload_n 0, 1) := by decide +kernel
theorem d162_11 : decode prog_12_method_37_code 11 = .ok (.iload_n 1, 1) := by decide +kernel
theorem d162_12 : decode prog_12_method_37_code 12 = .ok (.invokevirtual 167, 3) := by decide +kernel
theorem d162_15 : decode prog_12_method_37_code 15 = .ok (.ireturn, 1) := by decide +kernel
theorem d163_0 : decode prog_12_method_35_code 0 = .ok (.iconst 0, 1) := by decide +kernel
theorem d163_1 : decode prog_12_method_35_code 1 = .ok (.istore_n 2, 1) := by decide +kernel
theorem d163_2 : decode prog_12_method_35_code 2 = .ok (.iconst 0, 1) := by decide +kernel
theorem d163_3 : decode prog_12_method_35_code 3 = .ok (.istore_n 3, 1) := by decide +kernel
theorem d163_4 : decode prog_12_method_35_code 4 = .ok (.iload_n 3, 1) := by decide +kernel
theorem d163_5 : decode prog_12_method_35_code 5 = .ok (.bipush 6, 2) := by decide +kernel
theorem d163_7 : decode prog_12_method_35_code 7 = .ok (.if_icmp .ge 32, 3) := by decide +kernel
theorem d163_10 : decode prog_12_method_35_code 10 = .ok (.iload_n 2, 1) := by decide +kernel
theorem d163_11 : decode prog_12_method_35_code 11 = .ok (.aload_n 0, 1) := by decide +kernel
theorem d163_12 : decode prog_12_method_35_code 12 = .ok (.getfield 7, 3) := by decide +kernel
theorem d163_15 : decode prog_12_method_35_code 15 = .ok (.bipush 12, 2) := by decide +kernel
theorem d163_17 : decode prog_12_method_35_code 17 = .ok (.iload_n 3, 1) := by decide +kernel
theorem d163_18 : decode prog_12_method_35_code 18 = .ok (.iadd, 1) := by decide +kernel
theorem d163_19 : decode prog_12_method_35_code 19 = .ok (.iaload, 1) := by decide +kernel
theorem d163_20 : decode prog_12_method_35_code 20 = .ok (.iload_n 1, 1) := by decide +kernel
theorem d163_21 : decode prog_12_method_35_code 21 = .ok (.iconst 1, 1) := by decide +kernel
theorem d163_22 : decode prog_12_method_35_code 22 = .ok (.iadd, 1) := by decide +kernel
theorem d163_23 : decode prog_12_method_35_code 23 = .ok (.if_icmp .ne 7, 3) := by decide +kernel
theorem d163_26 : decode prog_12_method_35_code 26 = .ok (.iconst 1, 1) := by decide +kernel
theorem d163_27 : decode prog_12_method_35_code 27 = .ok (.goto 4, 3) := by decide +kernel
theorem d163_30 : decode prog_12_method_35_code 30 = .ok (.iconst 0, 1) := by decide +kernel
theorem d163_31 : decode prog_12_method_35_code 31 = .ok (.iadd, 1) := by decide +kernel
theorem d163_32 : decode prog_12_method_35_code 32 = .ok (.istore_n 2, 1) := by decide +kernel
theorem d163_33 : decode prog_12_method_35_code 33 = .ok (.iinc 3 1, 3) := by decide +kernel
theorem d163_36 : decode prog_12_method_35_code 36 = .ok (.goto (-32), 3) := by decide +kernel
theorem d163_39 : decode prog_12_method_35_code 39 = .ok (.iload_n 2, 1) := by decide +kernel
theorem d163_40 : decode prog_12_method_35_code 40 = .ok (.ireturn, 1) := by decide +kernel
theorem d164_0 : decode prog_12_method_39_code 0 = .ok (.aload_n 0, 1) := by decide +kernel
theorem d164_1 : decode prog_12_method_39_code 1 = .ok (.invokevirtual 100, 3) := by decide +kernel
theorem d164_4 : decode prog_12_method_39_code 4 = .ok (.aload_n 0, 1) := by decide +kernel
theorem d164_5 : decode prog_12_method_39_code 5 = .ok (.iload_n 1, 1) := by decide +kernel
theorem d164_6 : decode prog_12_method_39_code 6 = .ok (.iload_n 2, 1) := by decide +kernel
theorem d164_7 : decode prog_12_method_39_code 7 = .ok (.iload_n 1, 1) := by decide +kernel
theorem d164_8 : decode prog_12_method_39_code 8 = .ok (.iconst 1, 1) := by decide +kernel
theorem d164_9 : decode prog_12_method_39_code 9 = .ok (.iadd, 1) := by decide +kernel
theorem d164_10 : decode prog_12_method_39_code 10 = .ok (.invokevirtual 170, 3) := by decide +kernel
theorem d164_13 : decode prog_12_method_39_code 13 = .ok (.istore_n 3, 1) := by decide +kernel
theorem d164_14 : decode prog_12_method_39_code 14 = .ok (.iload_n 3, 1) := by decide +kernel
theorem d164_15 : decode prog_12_method_39_code 15 = .ok (.ifCond .le 11, 3) := by decide +kernel
theorem d164_18 : decode prog_12_method_39_code 18 = .ok (.aload_n 0, 1) := by decide +kernel
theorem d164_19 : decode prog_12_method_39_code 19 = .ok (.iload_n 3, 1) := by decide +kernel
theorem d164_20 : decode prog_12_method_39_code 20 = .ok (.invokevirtual 107, 3) := by decide +kernel
theorem d164_23 : decode prog_12_method_39_code 23 = .ok (.goto 14, 3) := by decide +kernel
theorem d164_26 : decode prog_12_method_39_code 26 = .ok (.aload_n 0, 1) := by decide +kernel
theorem d164_27 : decode prog_12_method_39_code 27 = .ok (.aload_n 0, 1) := by decide +kernel
theorem d164_28 : decode prog_12_method_39_code 28 = .ok (.iload_n 1, 1) := by decide +kernel
theorem d164_29 : decode prog_12_method_39_code 29 = .ok (.iload_n 2, 1) := by decide +kernel
theorem d164_30 : decode prog_12_method_39_code 30 = .ok (.iconst 0, 1) := by decide +kernel
theorem d164_31 : decode prog_12_method_39_code 31 = .ok (.invokevirtual 173, 3) := by decide +kernel
theorem d164_34 : decode prog_12_method_39_code 34 = .ok (.invokevirtual 114, 3) := by decide +kernel
theorem d164_37 : decode prog_12_method_39_code 37 = .ok (.ireturn, 1) := by decide +kernel
theorem d165_0 : decode prog_12_method_47_code 0 = .ok (.aload_n 0, 1) := by decide +kernel
theorem d165_1 : decode prog_12_method_47_code 1 = .ok (.invokevirtual 100, 3) := by decide +kernel
theorem d165_4 : decode prog_12_method_47_code 4 = .ok (.aload_n 0, 1) := by decide +kernel
theorem d165_5 : decode prog_12_method_47_code 5 = .ok (.iload_n 1, 1) := by decide +kernel
theorem d165_6 : decode prog_12_method_47_code 6 = .ok (.iload_n 2, 1) := by decide +kernel
theorem d165_7 : decode prog_12_method_47_code 7 = .ok (.invokevirtual 192, 3) := by decide +kernel
theorem d165_10 : decode prog_12_method_47_code 10 = .ok (.istore_n 3, 1) := by decide +kernel
theorem d165_11 : decode prog_12_method_47_code 11 = .ok (.iload_n 3, 1) := by decide +kernel
theorem d165_12 : decode prog_12_method_47_code 12 = .ok (.ifCond .le 11, 3) := by decide +kernel
theorem d165_15 : decode prog_12_method_47_code 15 = .ok (.aload_n 0, 1) := by decide +kernel
theorem d165_16 : decode prog_12_method_47_code 16 = .ok (.iload_n 3, 1) := by decide +kernel
theorem d165_17 : decode prog_12_method_47_code 17 = .ok (.invokevirtual 107, 3) := by decide +kernel
theorem d165_20 : decode prog_12_method_47_code 20 = .ok (.goto 13, 3) := by decide +kernel
theorem d165_23 : decode prog_12_method_47_code 23 = .ok (.aload_n 0, 1) := by decide +kernel
theorem d165_24 : decode prog_12_method_47_code 24 = .ok (.aload_n 0, 1) := by decide +kernel
theorem d165_25 : decode prog_12_method_47_code 25 = .ok (.iload_n 1, 1) := by decide +kernel
theorem d165_26 : decode prog_12_method_47_code 26 = .ok (.iload_n 2, 1) := by decide +kernel
theorem d165_27 : decode prog_12_method_47_code 27 = .ok (.invokevirtual 195, 3) := by decide +kernel
theorem d165_30 : decode prog_12_method_47_code 30 = .ok (.invokevirtual 114, 3) := by decide +kernel
theorem d165_33 : decode prog_12_method_47_code 33 = .ok (.ireturn, 1) := by decide +kernel
theorem d166_0 : decode prog_12_method_45_code 0 = .ok (.iload_n 1, 1) := by decide +kernel
theorem d166_1 : decode prog_12_method_45_code 1 = .ok (.invokestatic 123, 3) := by decide +kernel
theorem d166_4 : decode prog_12_method_45_code 4 = .ok (.ifCond .ne 5, 3) := by decide +kernel
theorem d166_7 : decode prog_12_method_45_code 7 = .ok (.iconst 1, 1) := by decide +kernel
theorem d166_8 : decode prog_12_method_45_code 8 = .ok (.ireturn, 1) := by decide +kernel
theorem d166_9 : decode prog_12_method_45_code 9 = .ok (.aload_n 0, 1) := by decide +kernel
theorem d166_10 : decode prog_12_method_45_code 10 = .ok (.iload_n 2, 1) := by decide +kernel
theorem d166_11 : decode prog_12_method_45_code 11 = .ok (.invokevirtual 117, 3) := by decide +kernel
theorem d166_14 : decode prog_12_method_45_code 14 = .ok (.ifCond .ge 5, 3) := by decide +kernel
theorem d166_17 : decode prog_12_method_45_code 17 = .ok (.iconst 2, 1) := by decide +kernel
theorem d166_18 : decode prog_12_method_45_code 18 = .ok (.ireturn, 1) := by decide +kernel
theorem d166_19 : decode prog_12_method_45_code 19 = .ok (.aload_n 0, 1) := by decide +kernel
theorem d166_20 : decode prog_12_method_45_code 20 = .ok (.iload_n 1, 1) := by decide +kernel
theorem d166_21 : decode prog_12_method_45_code 21 = .ok (.aload_n 0, 1) := by decide +kernel
theorem d166_22 : decode prog_12_method_45_code 22 = .ok (.iload_n 2, 1) := by decide +kernel
theorem d166_23 : decode prog_12_method_45_code 23 = .ok (.invokevirtual 117, 3) := by decide +kernel
theorem d166_26 : decode prog_12_method_45_code 26 = .ok (.invokevirtual 182, 3) := by decide +kernel
theorem d166_29 : decode prog_12_method_45_code 29 = .ok (.ifCond .ne 7, 3) := by decide +kernel
theorem d166_32 : decode prog_12_method_45_code 32 = .ok (.iconst 3, 1) := by decide +kernel
theorem d166_33 : decode prog_12_method_45_code 33 = .ok (.goto 21, 3) := by decide +kernel
theorem d166_36 : decode prog_12_method_45_code 36 = .ok (.aload_n 0, 1) := by decide +kernel
theorem d166_37 : decode prog_12_method_45_code 37 = .ok (.iload_n 1, 1) := by decide +kernel
theorem d166_38 : decode prog_12_method_45_code 38 = .ok (.aload_n 0, 1) := by decide +kernel
theorem d166_39 : decode prog_12_method_45_code 39 = .ok (.iload_n 2, 1) := by decide +kernel
theorem d166_40 : decode prog_12_method_45_code 40 = .ok (.invokevirtual 117, 3) := by decide +kernel
theorem d166_43 : decode prog_12_method_45_code 43 = .ok (.invokevirtual 186, 3) := by decide +kernel
theorem d166_46 : decode prog_12_method_45_code 46 = .ok (.ifCond .ne 7, 3) := by decide +kernel
theorem d166_49 : decode prog_12_method_45_code 49 = .ok (.iconst 4, 1) := by decide +kernel
theorem d166_50 : decode prog_12_method_45_code 50 = .ok (.goto 4, 3) := by decide +kernel
theorem d166_53 : decode prog_12_method_45_code 53 = .ok (.iconst 0, 1) := by decide +kernel
theorem d166_54 : decode prog_12_method_45_code 54 = .ok (.ireturn, 1) := by decide +kernel
theorem d167_0 : decode prog_12_method_43_code 0 = .ok (.aload_n 0, 1) := by decide +kernel
theorem d167_1 : decode prog_12_method_43_code 1 = .ok (.getfield 7, 3) := by decide +kernel
theorem d167_4 : decode prog_12_method_43_code 4 = .ok (.bipush 12, 2) := by decide +kernel
theorem d167_6 : decode prog_12_method_43_code 6 = .ok (.aload_n 0, 1) := by decide +kernel
theorem d167_7 : decode prog_12_method_43_code 7 = .ok (.iload_n 2, 1) := by decide +kernel
theorem d167_8 : decode prog_12_method_43_code 8 = .ok (.iconst 4, 1) := by decide +kernel
theorem d167_9 : decode prog_12_method_43_code 9 = .ok (.invokevirtual 85, 3) := by decide +kernel
theorem d167_12 : decode prog_12_method_43_code 12 = .ok (.iadd, 1) := by decide +kernel
theorem d167_13 : decode prog_12_method_43_code 13 = .ok (.iaload, 1) := by decide +kernel
theorem d167_14 : decode prog_12_method_43_code 14 = .ok (.iload_n 1, 1) := by decide +kernel
theorem d167_15 : decode prog_12_method_43_code 15 = .ok (.iconst 1, 1) := by decide +kernel
theorem d167_16 : decode prog_12_method_43_code 16 = .ok (.iadd, 1) := by decide +kernel
theorem d167_17 : decode prog_12_method_43_code 17 = .ok (.if_icmp .ne 7, 3) := by decide +kernel
theorem d167_20 : decode prog_12_method_43_code 20 = .ok (.iconst 1, 1) := by decide +kernel
theorem d167_21 : decode prog_12_method_43_code 21 = .ok (.goto 4, 3) := by decide +kernel
theorem d167_24 : decode prog_12_method_43_code 24 = .ok (.iconst 0, 1) := by decide +kernel
theorem d167_25 : decode prog_12_method_43_code 25 = .ok (.ireturn, 1) := by decide +kernel
theorem d168_0 : decode prog_12_method_44_code 0 = .ok (.aload_n 0, 1) := by decide +kernel
theorem d168_1 : decode prog_12_method_44_code 1 = .ok (.iload_n 1, 1) := by decide +kernel
theorem d168_2 : decode prog_12_method_44_code 2 = .ok (.iconst 4, 1) := by decide +kernel
theorem d168_3 : decode prog_12_method_44_code 3 = .ok (.aload_n 0, 1) := by decide +kernel
theorem d168_4 : decode prog_12_method_44_code 4 = .ok (.iload_n 2, 1) := by decide +kernel
theorem d168_5 : decode prog_12_method_44_code 5 = .ok (.iconst 3, 1) := by decide +kernel
theorem d168_6 : decode prog_12_method_44_code 6 = .ok (.invokevirtual 85, 3) := by decide +kernel
theorem d168_9 : decode prog_12_method_44_code 9 = .ok (.iadd, 1) := by decide +kernel
theorem d168_10 : decode prog_12_method_44_code 10 = .ok (.bipush 97, 2) := by decide +kernel
theorem d168_12 : decode prog_12_method_44_code 12 = .ok (.isub, 1) := by decide +kernel
theorem d168_13 : decode prog_12_method_44_code 13 = .ok (.invokevirtual 147, 3) := by decide +kernel
theorem d168_16 : decode prog_12_method_44_code 16 = .ok (.ifCond .le 7, 3) := by decide +kernel
theorem d168_19 : decode prog_12_method_44_code 19 = .ok (.iconst 1, 1) := by decide +kernel
theorem d168_20 : decode prog_12_method_44_code 20 = .ok (.goto 4, 3) := by decide +kernel
theorem d168_23 : decode prog_12_method_44_code 23 = .ok (.iconst 0, 1) := by decide +kernel
theorem d168_24 : decode prog_12_method_44_code 24 = .ok (.ireturn, 1) := by decide +kernel
theorem d169_0 : decode prog_12_method_46_code 0 = .ok (.aload_n 0, 1) := by decide +kernel
theorem d169_1 : decode prog_12_method_46_code 1 = .ok (.iload_n 2, 1) := by decide +kernel
theorem d169_2 : decode prog_12_method_46_code 2 = .ok (.invokevirtual 117, 3) := by decide +kernel
theorem d169_5 : decode prog_12_method_46_code 5 = .ok (.istore_n 3, 1) := by decide +kernel
theorem d169_6 : decode prog_12_method_46_code 6 = .ok (.aload_n 0, 1) := by decide +kernel
theorem d169_7 : decode prog_12_method_46_code 7 = .ok (.iload_n 1, 1) := by decide +kernel
theorem d169_8 : decode prog_12_method_46_code 8 = .ok (.iload_n 3, 1) := by decide +kernel
theorem d169_9 : decode prog_12_method_46_code 9 = .ok (.invokevirtual 189, 3) := by decide +kernel
theorem d169_12 : decode prog_12_method_46_code 12 = .ok (.istore 4, 2) := by decide +kernel
theorem d169_14 : decode prog_12_method_46_code 14 = .ok (.iload 4, 2) := by decide +kernel
theorem d169_16 : decode prog_12_method_46_code 16 = .ok (.aload_n 0, 1) := by decide +kernel
theorem d169_17 : decode prog_12_method_46_code 17 = .ok (.iload_n 3, 1) := by decide +kernel
theorem d169_18 : decode prog_12_method_46_code 18 = .ok (.bipush 6, 2) := by decide +kernel
theorem d169_20 : decode prog_12_method_46_code 20 = .ok (.invokevirtual 85, 3) := by decide +kernel
theorem d169_23 : decode prog_12_method_46_code 23 = .ok (.if_icmp .le 16, 3) := by decide +kernel
theorem d169_26 : decode prog_12_method_46_code 26 = .ok (.iload 4, 2) := by decide +kernel
theorem d169_28 : decode prog_12_method_46_code 28 = .ok (.aload_n 0, 1) := by decide +kernel
theorem d169_29 : decode prog_12_method_46_code 29 = .ok (.iload_n 3, 1) := by decide +kernel
theorem d169_30 : decode prog_12_method_46_code 30 = .ok (.bipush 6, 2) := by decide +kernel
theorem d169_32 : decode prog_12_method_46_code 32 = .ok (.invokevirtual 85, 3) := by decide +kernel
theorem d169_35 : decode prog_12_method_46_code 35 = .ok (.isub, 1) := by decide +kernel
theorem d169_36 : decode prog_12_method_46_code 36 = .ok (.goto 4, 3) := by decide +kernel
theorem d169_39 : decode prog_12_method_46_code 39 = .ok (.iconst 0, 1) := by decide +kernel
theorem d169_40 : decode prog_12_method_46_code 40 = .ok (.istore 5, 2) := by decide +kernel
theorem d169_42 : decode prog_12_method_46_code 42 = .ok (.aload_n 0, 1) := by decide +kernel
theorem d169_43 : decode prog_12_method_46_code 43 = .ok (.iload_n 1, 1) := by decide +kernel
theorem d169_44 : decode prog_12_method_46_code 44 = .ok (.iconst 2, 1) := by decide +kernel
theorem d169_45 : decode prog_12_method_46_code 45 = .ok (.iload 4, 2) := by decide +kernel
theorem d169_47 : decode prog_12_method_46_code 47 = .ok (.invokevirtual 156, 3) := by decide +kernel
theorem d169_50 : decode prog_12_method_46_code 50 = .ok (.aload_n 0, 1) := by decide +kernel
theorem d169_51 : decode prog_12_method_46_code 51 = .ok (.iload_n 1, 1) := by decide +kernel
theorem d169_52 : decode prog_12_method_46_code 52 = .ok (.iconst 0, 1) := by decide +kernel
theorem d169_53 : decode prog_12_method_46_code 53 = .ok (.aload_n 0, 1) := by decide +kernel
theorem d169_54 : decode prog_12_method_46_code 54 = .ok (.iload_n 3, 1) := by decide +kernel
theorem d169_55 : decode prog_12_method_46_code 55 = .ok (.iconst 1, 1) := by decide +kernel
theorem d169_56 : decode prog_12_method_46_code 56 = .ok (.invokevirtual 85, 3) := by decide +kernel
theorem d169_59 : decode prog_12_method_46_code 59 = .ok (.invokevirtual 156, 3) := by decide +kernel
theorem d169_62 : decode prog_12_method_46_code 62 = .ok (.aload_n 0, 1) := by decide +kernel
theorem d169_63 : decode prog_12_method_46_code 63 = .ok (.iload_n 1, 1) := by decide +kernel
theorem d169_64 : decode prog_12_method_46_code 64 = .ok (.iconst 1, 1) := by decide +kernel
theorem d169_65 : decode prog_12_method_46_code 65 = .ok (.aload_n 0, 1) := by decide +kernel
theorem d169_66 : decode prog_12_method_46_code 66 = .ok (.iload_n 3, 1) := by decide +kernel
theorem d169_67 : decode prog_12_method_46_code 67 = .ok (.iconst 2, 1) := by decide +kernel
theorem d169_68 : decode prog_12_method_46_code 68 = .ok (.invokevirtual 85, 3) := by decide +kernel
theorem d169_71 : decode prog_12_method_46_code 71 = .ok (.invokevirtual 156, 3) := by decide +kernel
theorem d169_74 : decode prog_12_method_46_code 74 = .ok (.aload_n 0, 1) := by decide +kernel
theorem d169_75 : decode prog_12_method_46_code 75 = .ok (.iload_n 1, 1) := by decide +kernel
theorem d169_76 : decode prog_12_method_46_code 76 = .ok (.iconst 4, 1) := by decide +kernel
theorem d169_77 : decode prog_12_method_46_code 77 = .ok (.aload_n 0, 1) := by decide +kernel
theorem d169_78 : decode prog_12_method_46_code 78 = .ok (.iload_n 3, 1) := by decide +kernel
theorem d169_79 : decode prog_12_method_46_code 79 = .ok (.iconst 3, 1) := by decide +kernel
theorem d169_80 : decode prog_12_method_46_code 80 = .ok (.invokevirtual 85, 3) := by decide +kernel
theorem d169_83 : decode prog_12_method_46_code 83 = .ok (.iadd, 1) := by decide +kernel
theorem d169_84 : decode prog_12_method_46_code 84 = .ok (.bipush 97, 2) := by decide +kernel
theorem d169_86 : decode prog_12_method_46_code 86 = .ok (.isub, 1) := by decide +kernel
theorem d169_87 : decode prog_12_method_46_code 87 = .ok (.aload_n 0, 1) := by decide +kernel
theorem d169_88 : decode prog_12_method_46_code 88 = .ok (.iload_n 1, 1) := by decide +kernel
theorem d169_89 : decode prog_12_method_46_code 89 = .ok (.iconst 4, 1) := by decide +kernel
theorem d169_90 : decode prog_12_method_46_code 90 = .ok (.aload_n 0, 1) := by decide +kernel
theorem d169_91 : decode prog_12_method_46_code 91 = .ok (.iload_n 3, 1) := by decide +kernel
theorem d169_92 : decode prog_12_method_46_code 92 = .ok (.iconst 3, 1) := by decide +kernel
theorem d169_93 : decode prog_12_method_46_code 93 = .ok (.invokevirtual 85, 3) := by decide +kernel
theorem d169_96 : decode prog_12_method_46_code 96 = .ok (.iadd, 1) := by decide +kernel
theorem d169_97 : decode prog_12_method_46_code 97 = .ok (.bipush 97, 2) := by decide +kernel
theorem d169_99 : decode prog_12_method_46_code 99 = .ok (.isub, 1) := by decide +kernel
theorem d169_100 : decode prog_12_method_46_code 100 = .ok (.invokevirtual 147, 3) := by decide +kernel
theorem d169_103 : decode prog_12_method_46_code 103 = .ok (.iconst 1, 1) := by decide +kernel
theorem d169_104 : decode prog_12_method_46_code 104 = .ok (.isub, 1) := by decide +kernel
theorem d169_105 : decode prog_12_method_46_code 105 = .ok (.invokevirtual 156, 3) := by decide +kernel
theorem d169_108 : decode prog_12_method_46_code 108 = .ok (.aload_n 0, 1) := by decide +kernel
theorem d169_109 : decode prog_12_method_46_code 109 = .ok (.iload_n 1, 1) := by decide +kernel
theorem d169_110 : decode prog_12_method_46_code 110 = .ok (.iconst 3, 1) := by decide +kernel
theorem d169_111 : decode prog_12_method_46_code 111 = .ok (.aload_n 0, 1) := by decide +kernel
theorem d169_112 : decode prog_12_method_46_code 112 = .ok (.iload_n 1, 1) := by decide +kernel
theorem d169_113 : decode prog_12_method_46_code 113 = .ok (.iconst 3, 1) := by decide +kernel
theorem d169_114 : decode prog_12_method_46_code 114 = .ok (.invokevirtual 147, 3) := by decide +kernel
theorem d169_117 : decode prog_12_method_46_code 117 = .ok (.bipush 10, 2) := by decide +kernel
theorem d169_119 : decode prog_12_method_46_code 119 = .ok (.aload_n 0, 1) := by decide +kernel
theorem d169_120 : decode prog_12_method_46_code 120 = .ok (.iload_n 3, 1) := by decide +kernel
theorem d169_121 : decode prog_12_method_46_code 121 = .ok (.iconst 5, 1) := by decide +kernel
theorem d169_122 : decode prog_12_method_46_code 122 = .ok (.invokevirtual 85, 3) := by decide +kernel
theorem d169_125 : decode prog_12_method_46_code 125 = .ok (.imul, 1) := by decide +kernel
theorem d169_126 : decode prog_12_method_46_code 126 = .ok (.iadd, 1) := by decide +kernel
theorem d169_127 : decode prog_12_method_46_code 127 = .ok (.iconst 2, 1) := by decide +kernel
theorem d169_128 : decode prog_12_method_46_code 128 = .ok (.iload 5, 2) := by decide +kernel
theorem d169_130 : decode prog_12_method_46_code 130 = .ok (.imul, 1) := by decide +kernel
theorem d169_131 : decode prog_12_method_46_code 131 = .ok (.isub, 1) := by decide +kernel
theorem d169_132 : decode prog_12_method_46_code 132 = .ok (.invokevirtual 156, 3) := by decide +kernel
theorem d169_135 : decode prog_12_method_46_code 135 = .ok (.aload_n 0, 1) := by decide +kernel
theorem d169_136 : decode prog_12_method_46_code 136 = .ok (.getfield 7, 3) := by decide +kernel
theorem d169_139 : decode prog_12_method_46_code 139 = .ok (.iconst 4, 1) := by decide +kernel
theorem d169_140 : decode prog_12_method_46_code 140 = .ok (.dup2, 1) := by decide +kernel
theorem d169_141 : decode prog_12_method_46_code 141 = .ok (.iaload, 1) := by decide +kernel
theorem d169_142 : decode prog_12_method_46_code 142 = .ok (.aload_n 0, 1) := by decide +kernel
theorem d169_143 : decode prog_12_method_46_code 143 = .ok (.iload_n 3, 1) := by decide +kernel
theorem d169_144 : decode prog_12_method_46_code 144 = .ok (.iconst 5, 1) := by decide +kernel
theorem d169_145 : decode prog_12_method_46_code 145 = .ok (.invokevirtual 85, 3) := by decide +kernel
theorem d169_148 : decode prog_12_method_46_code 148 = .ok (.iadd, 1) := by decide +kernel
theorem d169_149 : decode prog_12_method_46_code 149 = .ok (.iastore, 1) := by decide +kernel
theorem d169_150 : decode prog_12_method_46_code 150 = .ok (.aload_n 0, 1) := by decide +kernel
theorem d169_151 : decode prog_12_method_46_code 151 = .ok (.getfield 7, 3) := by decide +kernel
theorem d169_154 : decode prog_12_method_46_code 154 = .ok (.iconst 3, 1) := by decide +kernel
theorem d169_155 : decode prog_12_method_46_code 155 = .ok (.dup2, 1) := by decide +kernel
theorem d169_156 : decode prog_12_method_46_code 156 = .ok (.iaload, 1) := by decide +kernel
theorem d169_157 : decode prog_12_method_46_code 157 = .ok (.iload 5, 2) := by decide +kernel
theorem d169_159 : decode prog_12_method_46_code 159 = .ok (.iadd, 1) := by decide +kernel
theorem d169_160 : decode prog_12_method_46_code 160 = .ok (.iastore, 1) := by decide +kernel
theorem d169_161 : decode prog_12_method_46_code 161 = .ok (.aload_n 0, 1) := by decide +kernel
theorem d169_162 : decode prog_12_method_46_code 162 = .ok (.getfield 7, 3) := by decide +kernel
theorem d169_165 : decode prog_12_method_46_code 165 = .ok (.iconst 2, 1) := by decide +kernel
theorem d169_166 : decode prog_12_method_46_code 166 = .ok (.dup2, 1) := by decide +kernel
theorem d169_167 : decode prog_12_method_46_code 167 = .ok (.iaload, 1) := by decide +kernel
theorem d169_168 : decode prog_12_method_46_code 168 = .ok (.iconst 1, 1) := by decide +kernel
theorem d169_169 : decode prog_12_method_46_code 169 = .ok (.iadd, 1) := by decide +kernel
theorem d169_170 : decode prog_12_method_46_code 170 = .ok (.iastore, 1) := by decide +kernel
theorem d169_171 : decode prog_12_method_46_code 171 = .ok (.aload_n 0, 1) := by decide +kernel
theorem d169_172 : decode prog_12_method_46_code 172 = .ok (.iload_n 3, 1) := by decide +kernel
theorem d169_173 : decode prog_12_method_46_code 173 = .ok (.invokevirtual 120, 3) := by decide +kernel
theorem d169_176 : decode prog_12_method_46_code 176 = .ok (.istore 6, 2) := by decide +kernel
theorem d169_178 : decode prog_12_method_46_code 178 = .ok (.iconst 2, 1) := by decide +kernel
theorem d169_179 : decode prog_12_method_46_code 179 = .ok (.iload 5, 2) := by decide +kernel
theorem d169_181 : decode prog_12_method_46_code 181 = .ok (.imul, 1) := by decide +kernel
theorem d169_182 : decode prog_12_method_46_code 182 = .ok (.ireturn, 1) := by decide +kernel
theorem d170_0 : decode prog_12_method_42_code 0 = .ok (.aload_n 0, 1) := by decide +kernel
theorem d170_1 : decode prog_12_method_42_code 1 = .ok (.iload_n 1, 1) := by decide +kernel
theorem d170_2 : decode prog_12_method_42_code 2 = .ok (.iconst 2, 1) := by decide +kernel
theorem d170_3 : decode prog_12_method_42_code 3 = .ok (.invokevirtual 147, 3) := by decide +kernel
theorem d170_6 : decode prog_12_method_42_code 6 = .ok (.aload_n 0, 1) := by decide +kernel
theorem d170_7 : decode prog_12_method_42_code 7 = .ok (.iload_n 1, 1) := by decide +kernel
theorem d170_8 : decode prog_12_method_42_code 8 = .ok (.iload_n 2, 1) := by decide +kernel
theorem d170_9 : decode prog_12_method_42_code 9 = .ok (.invokevirtual 179, 3) := by decide +kernel
theorem d170_12 : decode prog_12_method_42_code 12 = .ok (.iadd, 1) := by decide +kernel
theorem d170_13 : decode prog_12_method_42_code 13 = .ok (.aload_n 0, 1) := by decide +kernel
theorem d170_14 : decode prog_12_method_42_code 14 = .ok (.iload_n 2, 1) := by decide +kernel
theorem d170_15 : decode prog_12_method_42_code 15 = .ok (.iconst 5, 1) := by decide +kernel
theorem d170_16 : decode prog_12_method_42_code 16 = .ok (.invokevirtual 85, 3) := by decide +kernel
theorem d170_19 : decode prog_12_method_42_code 19 = .ok (.iadd, 1) := by decide +kernel
theorem d170_20 : decode prog_12_method_42_code 20 = .ok (.ireturn, 1) := by decide +kernel
theorem d171_0 : decode prog_12_method_41_code 0 = .ok (.aload_n 0, 1) := by decide +kernel
theorem d171_1 : decode prog_12_method_41_code 1 = .ok (.iload_n 1, 1) := by decide +kernel
theorem d171_2 : decode prog_12_method_41_code 2 = .ok (.iconst 0, 1) := by decide +kernel
theorem d171_3 : decode prog_12_method_41_code 3 = .ok (.invokevirtual 147, 3) := by decide +kernel
theorem d171_6 : decode prog_12_method_41_code 6 = .ok (.aload_n 0, 1) := by decide +kernel
theorem d171_7 : decode prog_12_method_41_code 7 = .ok (.iload_n 2, 1) := by decide +kernel
theorem d171_8 : decode prog_12_method_41_code 8 = .ok (.iconst 1, 1) := by decide +kernel
theorem d171_9 : decode prog_12_method_41_code 9 = .ok (.invokevirtual 85, 3) := by decide +kernel
theorem d171_12 : decode prog_12_method_41_code 12 = .ok (.invokestatic 176, 3) := by decide +kernel
theorem d171_15 : decode prog_12_method_41_code 15 = .ok (.aload_n 0, 1) := by decide +kernel
theorem d171_16 : decode prog_12_method_41_code 16 = .ok (.iload_n 1, 1) := by decide +kernel
theorem d171_17 : decode prog_12_method_41_code 17 = .ok (.iconst 1, 1) := by decide +kernel
theorem d171_18 : decode prog_12_method_41_code 18 = .ok (.invokevirtual 147, 3) := by decide +kernel
theorem d171_21 : decode prog_12_method_41_code 21 = .ok (.aload_n 0, 1) := by decide +kernel
theorem d171_22 : decode prog_12_method_41_code 22 = .ok (.iload_n 2, 1) := by decide +kernel
theorem d171_23 : decode prog_12_method_41_code 23 = .ok (.iconst 2, 1) := by decide +kernel
theorem d171_24 : decode prog_12_method_41_code 24 = .ok (.invokevirtual 85, 3) := by decide +kernel
theorem d171_27 : decode prog_12_method_41_code 27 = .ok (.invokestatic 176, 3) := by decide +kernel
theorem d171_30 : decode prog_12_method_41_code 30 = .ok (.iadd, 1) := by decide +kernel
theorem d171_31 : decode prog_12_method_41_code 31 = .ok (.ireturn, 1) := by decide +kernel
theorem d172_0 : decode prog_12_method_40_code 0 = .ok (.iload_n 0, 1) := by decide +kernel
theorem d172_1 : decode prog_12_method_40_code 1 = .ok (.iload_n 1, 1) := by decide +kernel
theorem d172_2 : decode prog_12_method_40_code 2 = .ok (.if_icmp .ge 9, 3) := by decide +kernel
theorem d172_5 : decode prog_12_method_40_code 5 = .ok (.iload_n 1, 1) := by decide +kernel
theorem d172_6 : decode prog_12_method_40_code 6 = .ok (.iload_n 0, 1) := by decide +kernel
theorem d172_7 : decode prog_12_method_40_code 7 = .ok (.isub, 1) := by decide +kernel
theorem d172_8 : decode prog_12_method_40_code 8 = .ok (.goto 6, 3) := by decide +kernel
theorem d172_11 : decode prog_12_method_40_code 11 = .ok (.iload_n 0, 1) := by decide +kernel
theorem d172_12 : decode prog_12_method_40_code 12 = .ok (.iload_n 1, 1) := by decide +kernel
theorem d172_13 : decode prog_12_method_40_code 13 = .ok (.isub, 1) := by decide +kernel
theorem d172_14 : decode prog_12_method_40_code 14 = .ok (.ireturn, 1) := by decide +kernel
theorem d173_0 : decode prog_12_method_49_code 0 = .ok (.aload_n 0, 1) := by decide +kernel
theorem d173_1 : decode prog_12_method_49_code 1 = .ok (.invokevirtual 100, 3) := by decide +kernel
theorem d173_4 : decode prog_12_method_49_code 4 = .ok (.iload_n 1, 1) := by decide +kernel
theorem d173_5 : decode prog_12_method_49_code 5 = .ok (.invokestatic 123, 3) := by decide +kernel
theorem d173_8 : decode prog_12_method_49_code 8 = .ok (.ifCond .eq 15, 3) := by decide +kernel
theorem d173_11 : decode prog_12_method_49_code 11 = .ok (.aload_n 0, 1) := by decide +kernel
theorem d173_12 : decode prog_12_method_49_code 12 = .ok (.aload_n 0, 1) := by decide +kernel
theorem d173_13 : decode prog_12_method_49_code 13 = .ok (.iload_n 1, 1) := by decide +kernel
theorem d173_14 : decode prog_12_method_49_code 14 = .ok (.invokevirtual 198, 3) := by decide +kernel
theorem d173_17 : decode prog_12_method_49_code 17 = .ok (.invokevirtual 114, 3) := by decide +kernel
theorem d173_20 : decode prog_12_method_49_code 20 = .ok (.goto 8, 3) := by decide +kernel
theorem d173_23 : decode prog_12_method_49_code 23 = .ok (.aload_n 0, 1) := by decide +kernel
theorem d173_24 : decode prog_12_method_49_code 24 = .ok (.iconst 1, 1) := by decide +kernel
theorem d173_25 : decode prog_12_method_49_code 25 = .ok (.invokevirtual 107, 3) := by decide +kernel
theorem d173_28 : decode prog_12_method_49_code 28 = .ok (.ireturn, 1) := by decide +kernel
theorem d174_0 : decode prog_12_method_48_code 0 = .ok (.aload_n 0, 1) := by decide +kernel
theorem d174_1 : decode prog_12_method_48_code 1 = .ok (.iload_n 1, 1) := by decide +kernel
theorem d174_2 : decode prog_12_method_48_code 2 = .ok (.iconst 2, 1) := by decide +kernel
theorem d174_3 : decode prog_12_method_48_code 3 = .ok (.aload_n 0, 1) := by decide +kernel
theorem d174_4 : decode prog_12_method_48_code 4 = .ok (.iload_n 1, 1) := by decide +kernel
theorem d174_5 : decode prog_12_method_48_code 5 = .ok (.iconst 2, 1) := by decide +kernel
theorem d174_6 : decode prog_12_method_48_code 6 = .ok (.invokevirtual 147, 3) := by decide +kernel
theorem d174_9 : decode prog_12_method_48_code 9 = .ok (.aload_n 0, 1) := by decide +kernel
theorem d174_10 : decode prog_12_method_48_code 10 = .ok (.iload_n 1, 1) := by decide +kernel
theorem d174_11 : decode prog_12_method_48_code 11 = .ok (.iconst 0, 1) := by decide +kernel
theorem d174_12 : decode prog_12_method_48_code 12 = .ok (.invokevirtual 147, 3) := by decide +kernel
theorem d174_15 : decode prog_12_method_48_code 15 = .ok (.iadd, 1) := by decide +kernel
theorem d174_16 : decode prog_12_method_48_code 16 = .ok (.aload_n 0, 1) := by decide +kernel
theorem d174_17 : decode prog_12_method_48_code 17 = .ok (.iload_n 1, 1) := by decide +kernel
theorem d174_18 : decode prog_12_method_48_code 18 = .ok (.iconst 1, 1) := by decide +kernel
theorem d174_19 : decode prog_12_method_48_code 19 = .ok (.invokevirtual 147, 3) := by decide +kernel
theorem d174_22 : decode prog_12_method_48_code 22 = .ok (.iadd, 1) := by decide +kernel
theorem d174_23 : decode prog_12_method_48_code 23 = .ok (.invokevirtual 156, 3) := by decide +kernel
theorem d174_26 : decode prog_12_method_48_code 26 = .ok (.aload_n 0, 1) := by decide +kernel
theorem d174_27 : decode prog_12_method_48_code 27 = .ok (.iload_n 1, 1) := by decide +kernel
theorem d174_28 : decode prog_12_method_48_code 28 = .ok (.iconst 0, 1) := by decide +kernel
theorem d174_29 : decode prog_12_method_48_code 29 = .ok (.iconst 0, 1) := by decide +kernel
theorem d174_30 : decode prog_12_method_48_code 30 = .ok (.invokevirtual 156, 3) := by decide +kernel
theorem d174_33 : decode prog_12_method_48_code 33 = .ok (.aload_n 0, 1) := by decide +kernel
theorem d174_34 : decode prog_12_method_48_code 34 = .ok (.iload_n 1, 1) := by decide +kernel
theorem d174_35 : decode prog_12_method_48_code 35 = .ok (.iconst 1, 1) := by decide +kernel
theorem d174_36 : decode prog_12_method_48_code 36 = .ok (.iconst 0, 1) := by decide +kernel
theorem d174_37 : decode prog_12_method_48_code 37 = .ok (.invokevirtual 156, 3) := by decide +kernel
theorem d174_40 : decode prog_12_method_48_code 40 = .ok (.aload_n 0, 1) := by decide +kernel
theorem d174_41 : decode prog_12_method_48_code 41 = .ok (.iload_n 1, 1) := by decide +kernel
theorem d174_42 : decode prog_12_method_48_code 42 = .ok (.iconst 2, 1) := by decide +kernel
theorem d174_43 : decode prog_12_method_48_code 43 = .ok (.invokevirtual 147, 3) := by decide +kernel
theorem d174_46 : decode prog_12_method_48_code 46 = .ok (.ireturn, 1) := by decide +kernel
theorem d175_0 : decode prog_12_method_52_code 0 = .ok (.aload_n 0, 1) := by decide +kernel
theorem d175_1 : decode prog_12_method_52_code 1 = .ok (.invokevirtual 100, 3) := by decide +kernel
theorem d175_4 : decode prog_12_method_52_code 4 = .ok (.iload_n 1, 1) := by decide +kernel
theorem d175_5 : decode prog_12_method_52_code 5 = .ok (.iload_n 2, 1) := by decide +kernel
theorem d175_6 : decode prog_12_method_52_code 6 = .ok (.invokestatic 201, 3) := by decide +kernel
theorem d175_9 : decode prog_12_method_52_code 9 = .ok (.istore_n 3, 1) := by decide +kernel
theorem d175_10 : decode prog_12_method_52_code 10 = .ok (.iload_n 3, 1) := by decide +kernel
theorem d175_11 : decode prog_12_method_52_code 11 = .ok (.ifCond .le 11, 3) := by decide +kernel
theorem d175_14 : decode prog_12_method_52_code 14 = .ok (.aload_n 0, 1) := by decide +kernel
theorem d175_15 : decode prog_12_method_52_code 15 = .ok (.iload_n 3, 1) := by decide +kernel
theorem d175_16 : decode prog_12_method_52_code 16 = .ok (.invokevirtual 107, 3) := by decide +kernel
theorem d175_19 : decode prog_12_method_52_code 19 = .ok (.goto 13, 3) := by decide +kernel
theorem d175_22 : decode prog_12_method_52_code 22 = .ok (.aload_n 0, 1) := by decide +kernel
theorem d175_23 : decode prog_12_method_52_code 23 = .ok (.aload_n 0, 1) := by decide +kernel
theorem d175_24 : decode prog_12_method_52_code 24 = .ok (.iload_n 1, 1) := by decide +kernel
theorem d175_25 : decode prog_12_method_52_code 25 = .ok (.iload_n 2, 1) := by decide +kernel
theorem d175_26 : decode prog_12_method_52_code 26 = .ok (.invokevirtual 204, 3) := by decide +kernel
theorem d175_29 : decode prog_12_method_52_code 29 = .ok (.invokevirtual 114, 3) := by decide +kernel
theorem d175_32 : decode prog_12_method_52_code 32 = .ok (.ireturn, 1) := by decide +kernel
theorem d176_0 : decode prog_12_method_51_code 0 = .ok (.iload_n 0, 1) := by decide +kernel
theorem d176_1 : decode prog_12_method_51_code 1 = .ok (.invokestatic 123, 3) := by decide +kernel
theorem d176_4 : decode prog_12_method_51_code 4 = .ok (.ifCond .ne 7, 3) := by decide +kernel
theorem d176_7 : decode prog_12_method_51_code 7 = .ok (.iconst 1, 1) := by decide +kernel
theorem d176_8 : decode prog_12_method_51_code 8 = .ok (.goto 18, 3) := by decide +kernel
theorem d176_11 : decode prog_12_method_51_code 11 = .ok (.iload_n 1, 1) := by decide +kernel
theorem d176_12 : decode prog_12_method_51_code 12 = .ok (.iconst 1, 1) := by decide +kernel
theorem d176_13 : decode prog_12_method_51_code 13 = .ok (.bipush 99, 2) := by decide +kernel
theorem d176_15 : decode prog_12_method_51_code 15 = .ok (.invokestatic 89, 3) := by decide +kernel
theorem d176_18 : decode prog_12_method_51_code 18 = .ok (.ifCond .ne 7, 3) := by decide +kernel
theorem d176_21 : decode prog_12_method_51_code 21 = .ok (.iconst 2, 1) := by decide +kernel
theorem d176_22 : decode prog_12_method_51_code 22 = .ok (.goto 4, 3) := by decide +kernel
theorem d176_25 : decode prog_12_method_51_code 25 = .ok (.iconst 0, 1) := by decide +kernel
theorem d176_26 : decode prog_12_method_51_code 26 = .ok (.ireturn, 1) := by decide +kernel
theorem d177_0 : decode prog_12_method_50_code 0 = .ok (.aload_n 0, 1) := by decide +kernel
theorem d177_1 : decode prog_12_method_50_code 1 = .ok (.iload_n 1, 1) := by decide +kernel
theorem d177_2 : decode prog_12_method_50_code 2 = .ok (.iconst 2, 1) := by decide +kernel
theorem d177_3 : decode prog_12_method_50_code 3 = .ok (.aload_n 0, 1) := by decide +kernel
theorem d177_4 : decode prog_12_method_50_code 4 = .ok (.iload_n 1, 1) := by decide +kernel
theorem d177_5 : decode prog_12_method_50_code 5 = .ok (.iconst 2, 1) := by decide +kernel
theorem d177_6 : decode prog_12_method_50_code 6 = .ok (.invokevirtual 147, 3) := by decide +kernel
theorem d177_9 : decode prog_12_method_50_code 9 = .ok (.iload_n 2, 1) := by decide +kernel
theorem d177_10 : decode prog_12_method_50_code 10 = .ok (.iadd, 1) := by decide +kernel
theorem d177_11 : decode prog_12_method_50_code 11 = .ok (.invokevirtual 156, 3) := by decide +kernel
theorem d177_14 : decode prog_12_method_50_code 14 = .ok (.aload_n 0, 1) := by decide +kernel
theorem d177_15 : decode prog_12_method_50_code 15 = .ok (.iload_n 1, 1) := by decide +kernel
theorem d177_16 : decode prog_12_method_50_code 16 = .ok (.iconst 2, 1) := by decide +kernel
theorem d177_17 : decode prog_12_method_50_code 17 = .ok (.invokevirtual 147, 3) := by decide +kernel
theorem d177_20 : decode prog_12_method_50_code 20 = .ok (.ireturn, 1) := by decide +kernel
theorem d178_0 : decode prog_12_method_55_code 0 = .ok (.aload_n 0, 1) := by decide +kernel
theorem d178_1 : decode prog_12_method_55_code 1 = .ok (.aload_n 0, 1) := by decide +kernel
theorem d178_2 : decode prog_12_method_55_code 2 = .ok (.getfield 7, 3) := by decide +kernel
theorem d178_5 : decode prog_12_method_55_code 5 = .ok (.iconst 0, 1) := by decide +kernel
theorem d178_6 : decode prog_12_method_55_code 6 = .ok (.iaload, 1) := by decide +kernel
theorem d178_7 : decode prog_12_method_55_code 7 = .ok (.invokevirtual 207, 3) := by decide +kernel
theorem d178_10 : decode prog_12_method_55_code 10 = .ok (.ireturn, 1) := by decide +kernel
theorem d179_0 : decode prog_12_method_53_code 0 = .ok (.aload_n 0, 1) := by decide +kernel
theorem d179_1 : decode prog_12_method_53_code 1 = .ok (.iconst 0, 1) := by decide +kernel
theorem d179_2 : decode prog_12_method_53_code 2 = .ok (.putfield 28, 3) := by decide +kernel
theorem d179_5 : decode prog_12_method_53_code 5 = .ok (.iload_n 1, 1) := by decide +kernel
theorem d179_6 : decode prog_12_method_53_code 6 = .ok (.ireturn, 1) := by decide +kernel
theorem d180_0 : decode prog_12_method_56_code 0 = .ok (.aload_n 0, 1) := by decide +kernel
theorem d180_1 : decode prog_12_method_56_code 1 = .ok (.aload_n 0, 1) := by decide +kernel
theorem d180_2 : decode prog_12_method_56_code 2 = .ok (.iload_n 1, 1) := by decide +kernel
theorem d180_3 : decode prog_12_method_56_code 3 = .ok (.invokevirtual 117, 3) := by decide +kernel
theorem d180_6 : decode prog_12_method_56_code 6 = .ok (.invokevirtual 207, 3) := by decide +kernel
theorem d180_9 : decode prog_12_method_56_code 9 = .ok (.ifCond .lt 7, 3) := by decide +kernel
theorem d180_12 : decode prog_12_method_56_code 12 = .ok (.iconst 1, 1) := by decide +kernel
theorem d180_13 : decode prog_12_method_56_code 13 = .ok (.goto 4, 3) := by decide +kernel
theorem d180_16 : decode prog_12_method_56_code 16 = .ok (.iconst 0, 1) := by decide +kernel
theorem d180_17 : decode prog_12_method_56_code 17 = .ok (.ireturn, 1) := by decide +kernel
theorem d181_0 : decode prog_12_method_58_code 0 = .ok (.aload_n 0, 1) := by decide +kernel
theorem d181_1 : decode prog_12_method_58_code 1 = .ok (.iload_n 1, 1) := by decide +kernel
theorem d181_2 : decode prog_12_method_58_code 2 = .ok (.iconst 3, 1) := by decide +kernel
theorem d181_3 : decode prog_12_method_58_code 3 = .ok (.invokevirtual 214, 3) := by decide +kernel
theorem d181_6 : decode prog_12_method_58_code 6 = .ok (.istore_n 2, 1) := by decide +kernel
theorem d181_7 : decode prog_12_method_58_code 7 = .ok (.aload_n 0, 1) := by decide +kernel
theorem d181_8 : decode prog_12_method_58_code 8 = .ok (.getfield 28, 3) := by decide +kernel
theorem d181_11 : decode prog_12_method_58_code 11 = .ok (.ifCond .le 8, 3) := by decide +kernel
theorem d181_14 : decode prog_12_method_58_code 14 = .ok (.bipush 32, 2) := by decide +kernel
theorem d181_16 : decode prog_12_method_58_code 16 = .ok (.goto 5, 3) := by decide +kernel
theorem d181_19 : decode prog_12_method_58_code 19 = .ok (.iload_n 2, 1) := by decide +kernel
theorem d181_20 : decode prog_12_method_58_code 20 = .ok (.i2c, 1) := by decide +kernel
theorem d181_21 : decode prog_12_method_58_code 21 = .ok (.ireturn, 1) := by decide +kernel
theorem d182_0 : decode prog_12_method_57_code 0 = .ok (.aload_n 0, 1) := by decide +kernel
theorem d182_1 : decode prog_12_method_57_code 1 = .ok (.aload_n 0, 1) := by decide +kernel
theorem d182_2 : decode prog_12_method_57_code 2 = .ok (.iload_n 1, 1) := by decide +kernel
theorem d182_3 : decode prog_12_method_57_code 3 = .ok (.invokevirtual 117, 3) := by decide +kernel
theorem d182_6 : decode prog_12_method_57_code 6 = .ok (.ifCond .lt 7, 3) := by decide +kernel
theorem d182_9 : decode prog_12_method_57_code 9 = .ok (.iconst 1, 1) := by decide +kernel
theorem d182_10 : decode prog_12_method_57_code 10 = .ok (.goto 4, 3) := by decide +kernel
theorem d182_13 : decode prog_12_method_57_code 13 = .ok (.iconst 0, 1) := by decide +kernel
theorem d182_14 : decode prog_12_method_57_code 14 = .ok (.invokevirtual 210, 3) := by decide +kernel
theorem d182_17 : decode prog_12_method_57_code 17 = .ok (.ifCond .le 7, 3) := by decide +kernel
theorem d182_20 : decode prog_12_method_57_code 20 = .ok (.iconst 0, 1) := by decide +kernel
theorem d182_21 : decode prog_12_method_57_code 21 = .ok (.goto 13, 3) := by decide +kernel
theorem d182_24 : decode prog_12_method_57_code 24 = .ok (.aload_n 0, 1) := by decide +kernel
theorem d182_25 : decode prog_12_method_57_code 25 = .ok (.aload_n 0, 1) := by decide +kernel
theorem d182_26 : decode prog_12_method_57_code 26 = .ok (.iload_n 1, 1) := by decide +kernel
theorem d182_27 : decode prog_12_method_57_code 27 = .ok (.invokevirtual 117, 3) := by decide +kernel
theorem d182_30 : decode prog_12_method_57_code 30 = .ok (.iload_n 2, 1) := by decide +kernel
theorem d182_31 : decode prog_12_method_57_code 31 = .ok (.invokevirtual 85, 3) := by decide +kernel
theorem d182_34 : decode prog_12_method_57_code 34 = .ok (.ireturn, 1) := by decide +kernel
theorem d183_0 : decode prog_12_method_54_code 0 = .ok (.aload_n 0, 1) := by decide +kernel
theorem d183_1 : decode prog_12_method_54_code 1 = .ok (.iload_n 1, 1) := by decide +kernel
theorem d183_2 : decode prog_12_method_54_code 2 = .ok (.ifCond .eq 7, 3) := by decide +kernel
theorem d183_5 : decode prog_12_method_54_code 5 = .ok (.iconst 0, 1) := by decide +kernel
theorem d183_6 : decode prog_12_method_54_code 6 = .ok (.goto 4, 3) := by decide +kernel
theorem d183_9 : decode prog_12_method_54_code 9 = .ok (.iconst 1, 1) := by decide +kernel
theorem d183_10 : decode prog_12_method_54_code 10 = .ok (.putfield 28, 3) := by decide +kernel
theorem d183_13 : decode prog_12_method_54_code 13 = .ok (.aload_n 0, 1) := by decide +kernel
theorem d183_14 : decode prog_12_method_54_code 14 = .ok (.getfield 28, 3) := by decide +kernel
theorem d183_17 : decode prog_12_method_54_code 17 = .ok (.ireturn, 1) := by decide +kernel
theorem d184_0 : decode prog_12_method_59_code 0 = .ok (.aload_n 0, 1) := by decide +kernel
theorem d184_1 : decode prog_12_method_59_code 1 = .ok (.iload_n 1, 1) := by decide +kernel
theorem d184_2 : decode prog_12_method_59_code 2 = .ok (.iconst 4, 1) := by decide +kernel
theorem d184_3 : decode prog_12_method_59_code 3 = .ok (.invokevirtual 214, 3) := by decide +kernel
theorem d184_6 : decode prog_12_method_59_code 6 = .ok (.ireturn, 1) := by decide +kernel
theorem d185_0 : decode prog_12_method_60_code 0 = .ok (.aload_n 0, 1) := by decide +kernel
theorem d185_1 : decode prog_12_method_60_code 1 = .ok (.iload_n 1, 1) := by decide +kernel
theorem d185_2 : decode prog_12_method_60_code 2 = .ok (.bipush 6, 2) := by decide +kernel
theorem d185_4 : decode prog_12_method_60_code 4 = .ok (.invokevirtual 214, 3) := by decide +kernel
theorem d185_7 : decode prog_12_method_60_code 7 = .ok (.ireturn, 1) := by decide +kernel
theorem d186_0 : decode prog_12_method_61_code 0 = .ok (.aload_n 0, 1) := by decide +kernel
theorem d186_1 : decode prog_12_method_61_code 1 = .ok (.iload_n 1, 1) := by decide +kernel
theorem d186_2 : decode prog_12_method_61_code 2 = .ok (.bipush 7, 2) := by decide +kernel
theorem d186_4 : decode prog_12_method_61_code 4 = .ok (.invokevirtual 214, 3) := by decide +kernel
theorem d186_7 : decode prog_12_method_61_code 7 = .ok (.istore_n 2, 1) := by decide +kernel
theorem d186_8 : decode prog_12_method_61_code 8 = .ok (.aload_n 0, 1) := by decide +kernel
theorem d186_9 : decode prog_12_method_61_code 9 = .ok (.getfield 28, 3) := by decide +kernel
theorem d186_12 : decode prog_12_method_61_code 12 = .ok (.ifCond .le 7, 3) := by decide +kernel
theorem d186_15 : decode prog_12_method_61_code 15 = .ok (.iconst 0, 1) := by decide +kernel
theorem d186_16 : decode prog_12_method_61_code 16 = .ok (.goto 18, 3) := by decide +kernel
theorem d186_19 : decode prog_12_method_61_code 19 = .ok (.iload_n 2, 1) := by decide +kernel
theorem d186_20 : decode prog_12_method_61_code 20 = .ok (.ifCond .ne 11, 3) := by decide +kernel
theorem d186_23 : decode prog_12_method_61_code 23 = .ok (.aload_n 0, 1) := by decide +kernel
theorem d186_24 : decode prog_12_method_61_code 24 = .ok (.iconst 1, 1) := by decide +kernel
theorem d186_25 : decode prog_12_method_61_code 25 = .ok (.invokevirtual 107, 3) := by decide +kernel
theorem d186_28 : decode prog_12_method_61_code 28 = .ok (.goto 6, 3) := by decide +kernel
theorem d186_31 : decode prog_12_method_61_code 31 = .ok (.iload_n 2, 1) := by decide +kernel
theorem d186_32 : decode prog_12_method_61_code 32 = .ok (.iconst 1, 1) := by decide +kernel
theorem d186_33 : decode prog_12_method_61_code 33 = .ok (.isub, 1) := by decide +kernel
theorem d186_34 : decode prog_12_method_61_code 34 = .ok (.ireturn, 1) := by decide +kernel
theorem d187_0 : decode prog_12_method_62_code 0 = .ok (.aload_n 0, 1) := by decide +kernel
theorem d187_1 : decode prog_12_method_62_code 1 = .ok (.iconst 0, 1) := by decide +kernel
theorem d187_2 : decode prog_12_method_62_code 2 = .ok (.putfield 28, 3) := by decide +kernel
theorem d187_5 : decode prog_12_method_62_code 5 = .ok (.iconst 0, 1) := by decide +kernel
theorem d187_6 : decode prog_12_method_62_code 6 = .ok (.istore_n 2, 1) := by decide +kernel
theorem d187_7 : decode prog_12_method_62_code 7 = .ok (.iload_n 2, 1) := by decide +kernel
theorem d187_8 : decode prog_12_method_62_code 8 = .ok (.aload_n 0, 1) := by decide +kernel
theorem d187_9 : decode prog_12_method_62_code 9 = .ok (.getfield 7, 3) := by decide +kernel
theorem d187_12 : decode prog_12_method_62_code 12 = .ok (.iconst 0, 1) := by decide +kernel
theorem d187_13 : decode prog_12_method_62_code 13 = .ok (.iaload, 1) := by decide +kernel
theorem d187_14 : decode prog_12_method_62_code 14 = .ok (.if_icmp .ge 93, 3) := by decide +kernel
theorem d187_17 : decode prog_12_method_62_code 17 = .ok (.iconst 0, 1) := by decide +kernel
theorem d187_18 : decode prog_12_method_62_code 18 = .ok (.istore_n 3, 1) := by decide +kernel
theorem d187_19 : decode prog_12_method_62_code 19 = .ok (.iconst 0, 1) := by decide +kernel
theorem d187_20 : decode prog_12_method_62_code 20 = .ok (.istore 4, 2) := by decide +kernel
theorem d187_22 : decode prog_12_method_62_code 22 = .ok (.iload 4, 2) := by decide +kernel
theorem d187_24 : decode prog_12_method_62_code 24 = .ok (.aload_n 0, 1) := by decide +kernel
theorem d187_25 : decode prog_12_method_62_code 25 = .ok (.getfield 7, 3) := by decide +kernel
theorem d187_28 : decode prog_12_method_62_code 28 = .ok (.iconst 0, 1) := by decide +kernel
theorem d187_29 : decode prog_12_method_62_code 29 = .ok (.iaload, 1) := by decide +kernel
theorem d187_30 : decode prog_12_method_62_code 30 = .ok (.if_icmp .ge 59, 3) := by decide +kernel
theorem d187_33 : decode prog_12_method_62_code 33 = .ok (.iload_n 3, 1) := by decide +kernel
theorem d187_34 : decode prog_12_method_62_code 34 = .ok (.aload_n 0, 1) := by decide +kernel
theorem d187_35 : decode prog_12_method_62_code 35 = .ok (.iload 4, 2) := by decide +kernel
theorem d187_37 : decode prog_12_method_62_code 37 = .ok (.bipush 6, 2) := by decide +kernel
theorem d187_39 : decode prog_12_method_62_code 39 = .ok (.invokevirtual 85, 3) := by decide +kernel
theorem d187_42 : decode prog_12_method_62_code 42 = .ok (.aload_n 0, 1) := by decide +kernel
theorem d187_43 : decode prog_12_method_62_code 43 = .ok (.iload_n 2, 1) := by decide +kernel
theorem d187_44 : decode prog_12_method_62_code 44 = .ok (.bipush 6, 2) := by decide +kernel
theorem d187_46 : decode prog_12_method_62_code 46 = .ok (.invokevirtual 85, 3) := by decide +kernel
theorem d187_49 : decode prog_12_method_62_code 49 = .ok (.if_icmp .lt 27, 3) := by decide +kernel
theorem d187_52 : decode prog_12_method_62_code 52 = .ok (.aload_n 0, 1) := by decide +kernel
theorem d187_53 : decode prog_12_method_62_code 53 = .ok (.iload 4, 2) := by decide +kernel
theorem d187_55 : decode prog_12_method_62_code 55 = .ok (.bipush 6, 2) := by decide +kernel
theorem d187_57 : decode prog_12_method_62_code 57 = .ok (.invokevirtual 85, 3) := by decide +kernel
theorem d187_60 : decode prog_12_method_62_code 60 = .ok (.aload_n 0, 1) := by decide +kernel
theorem d187_61 : decode prog_12_method_62_code 61 = .ok (.iload_n 2, 1) := by decide +kernel
theorem d187_62 : decode prog_12_method_62_code 62 = .ok (.bipush 6, 2) := by decide +kernel
theorem d187_64 : decode prog_12_method_62_code 64 = .ok (.invokevirtual 85, 3) := by decide +kernel
theorem d187_67 : decode prog_12_method_62_code 67 = .ok (.if_icmp .ne 13, 3) := by decide +kernel
theorem d187_70 : decode prog_12_method_62_code 70 = .ok (.iload 4, 2) := by decide +kernel
theorem d187_72 : decode prog_12_method_62_code 72 = .ok (.iload_n 2, 1) := by decide +kernel
theorem d187_73 : decode prog_12_method_62_code 73 = .ok (.if_icmp .ge 7, 3) := by decide +kernel
theorem d187_76 : decode prog_12_method_62_code 76 = .ok (.iconst 1, 1) := by decide +kernel
theorem d187_77 : decode prog_12_method_62_code 77 = .ok (.goto 4, 3) := by decide +kernel
theorem d187_80 : decode prog_12_method_62_code 80 = .ok (.iconst 0, 1) := by decide +kernel
theorem d187_81 : decode prog_12_method_62_code 81 = .ok (.iadd, 1) := by decide +kernel
theorem d187_82 : decode prog_12_method_62_code 82 = .ok (.istore_n 3, 1) := by decide +kernel
theorem d187_83 : decode prog_12_method_62_code 83 = .ok (.iinc 4 1, 3) := by decide +kernel
theorem d187_86 : decode prog_12_method_62_code 86 = .ok (.goto (-64), 3) := by decide +kernel
theorem d187_89 : decode prog_12_method_62_code 89 = .ok (.iload_n 3, 1) := by decide +kernel
theorem d187_90 : decode prog_12_method_62_code 90 = .ok (.iload_n 1, 1) := by decide +kernel
theorem d187_91 : decode prog_12_method_62_code 91 = .ok (.if_icmp .ne 10, 3) := by decide +kernel
theorem d187_94 : decode prog_12_method_62_code 94 = .ok (.aload_n 0, 1) := by decide +kernel
theorem d187_95 : decode prog_12_method_62_code 95 = .ok (.iload_n 2, 1) := by decide +kernel
theorem d187_96 : decode prog_12_method_62_code 96 = .ok (.iconst 0, 1) := by decide +kernel
theorem d187_97 : decode prog_12_method_62_code 97 = .ok (.invokevirtual 85, 3) := by decide +kernel
theorem d187_100 : decode prog_12_method_62_code 100 = .ok (.ireturn, 1) := by decide +kernel
theorem d187_101 : decode prog_12_method_62_code 101 = .ok (.iinc 2 1, 3) := by decide +kernel
theorem d187_104 : decode prog_12_method_62_code 104 = .ok (.goto (-97), 3) := by decide +kernel
theorem d187_107 : decode prog_12_method_62_code 107 = .ok (.aload_n 0, 1) := by decide +kernel
theorem d187_108 : decode prog_12_method_62_code 108 = .ok (.iconst 1, 1) := by decide +kernel
theorem d187_109 : decode prog_12_method_62_code 109 = .ok (.invokevirtual 107, 3) := by decide +kernel
theorem d187_112 : decode prog_12_method_62_code 112 = .ok (.ireturn, 1) := by decide +kernel
theorem d188_0 : decode prog_12_method_63_code 0 = .ok (.aload_n 0, 1) := by decide +kernel
theorem d188_1 : decode prog_12_method_63_code 1 = .ok (.iload_n 1, 1) := by decide +kernel
theorem d188_2 : decode prog_12_method_63_code 2 = .ok (.invokestatic 93, 3) := by decide +kernel
theorem d188_5 : decode prog_12_method_63_code 5 = .ok (.invokevirtual 210, 3) := by decide +kernel
theorem d188_8 : decode prog_12_method_63_code 8 = .ok (.ifCond .le 7, 3) := by decide +kernel
theorem d188_11 : decode prog_12_method_63_code 11 = .ok (.iconst 0, 1) := by decide +kernel
theorem d188_12 : decode prog_12_method_63_code 12 = .ok (.goto 15, 3) := by decide +kernel
theorem d188_15 : decode prog_12_method_63_code 15 = .ok (.aload_n 0, 1) := by decide +kernel
theorem d188_16 : decode prog_12_method_63_code 16 = .ok (.getfield 7, 3) := by decide +kernel
theorem d188_19 : decode prog_12_method_63_code 19 = .ok (.bipush 8, 2) := by decide +kernel
theorem d188_21 : decode prog_12_method_63_code 21 = .ok (.iload_n 1, 1) := by decide +kernel
theorem d188_22 : decode prog_12_method_63_code 22 = .ok (.iadd, 1) := by decide +kernel
theorem d188_23 : decode prog_12_method_63_code 23 = .ok (.bipush 97, 2) := by decide +kernel
theorem d188_25 : decode prog_12_method_63_code 25 = .ok (.isub, 1) := by decide +kernel
theorem d188_26 : decode prog_12_method_63_code 26 = .ok (.iaload, 1) := by decide +kernel
theorem d188_27 : decode prog_12_method_63_code 27 = .ok (.ireturn, 1) := by decide +kernel
theorem d189_0 : decode prog_12_method_64_code 0 = .ok (.aload_n 0, 1) := by decide +kernel
theorem d189_1 : decode prog_12_method_64_code 1 = .ok (.iload_n 1, 1) := by decide +kernel
theorem d189_2 : decode prog_12_method_64_code 2 = .ok (.invokestatic 123, 3) := by decide +kernel
theorem d189_5 : decode prog_12_method_64_code 5 = .ok (.ifCond .ne 7, 3) := by decide +kernel
theorem d189_8 : decode prog_12_method_64_code 8 = .ok (.iconst 1, 1) := by decide +kernel
theorem d189_9 : decode prog_12_method_64_code 9 = .ok (.goto 15, 3) := by decide +kernel
theorem d189_12 : decode prog_12_method_64_code 12 = .ok (.iload_n 2, 1) := by decide +kernel
theorem d189_13 : decode prog_12_method_64_code 13 = .ok (.invokestatic 93, 3) := by decide +kernel
theorem d189_16 : decode prog_12_method_64_code 16 = .ok (.ifCond .ne 7, 3) := by decide +kernel
theorem d189_19 : decode prog_12_method_64_code 19 = .ok (.iconst 2, 1) := by decide +kernel
theorem d189_20 : decode prog_12_method_64_code 20 = .ok (.goto 4, 3) := by decide +kernel
theorem d189_23 : decode prog_12_method_64_code 23 = .ok (.iconst 0, 1) := by decide +kernel
theorem d189_24 : decode prog_12_method_64_code 24 = .ok (.putfield 28, 3) := by decide +kernel
theorem d189_27 : decode prog_12_method_64_code 27 = .ok (.aload_n 0, 1) := by decide +kernel
theorem d189_28 : decode prog_12_method_64_code 28 = .ok (.getfield 28, 3) := by decide +kernel
theorem d189_31 : decode prog_12_method_64_code 31 = .ok (.ifCond .le 7, 3) := by decide +kernel
theorem d189_34 : decode prog_12_method_64_code 34 = .ok (.iconst 0, 1) := by decide +kernel
theorem d189_35 : decode prog_12_method_64_code 35 = .ok (.goto 14, 3) := by decide +kernel
theorem d189_38 : decode prog_12_method_64_code 38 = .ok (.aload_n 0, 1) := by decide +kernel
theorem d189_39 : decode prog_12_method_64_code 39 = .ok (.iload_n 1, 1) := by decide +kernel
theorem d189_40 : decode prog_12_method_64_code 40 = .ok (.iconst 4, 1) := by decide +kernel
theorem d189_41 : decode prog_12_method_64_code 41 = .ok (.iload_n 2, 1) := by decide +kernel
theorem d189_42 : decode prog_12_method_64_code 42 = .ok (.iadd, 1) := by decide +kernel
theorem d189_43 : decode prog_12_method_64_code 43 = .ok (.bipush 97, 2) := by decide +kernel
theorem d189_45 : decode prog_12_method_64_code 45 = .ok (.isub, 1) := by decide +kernel
theorem d189_46 : decode prog_12_method_64_code 46 = .ok (.invokevirtual 147, 3) := by decide +kernel
theorem d189_49 : decode prog_12_method_64_code 49 = .ok (.ireturn, 1) := by decide +kernel
theorem d190_0 : decode prog_12_method_65_code 0 = .ok (.aload_n 0, 1) := by decide +kernel
theorem d190_1 : decode prog_12_method_65_code 1 = .ok (.iload_n 1, 1) := by decide +kernel
theorem d190_2 : decode prog_12_method_65_code 2 = .ok (.invokestatic 123, 3) := by decide +kernel
theorem d190_5 : decode prog_12_method_65_code 5 = .ok (.invokevirtual 210, 3) := by decide +kernel
theorem d190_8 : decode prog_12_method_65_code 8 = .ok (.ifCond .le 7, 3) := by decide +kernel
theorem d190_11 : decode prog_12_method_65_code 11 = .ok (.iconst 0, 1) := by decide +kernel
theorem d190_12 : decode prog_12_method_65_code 12 = .ok (.goto 8, 3) := by decide +kernel
theorem d190_15 : decode prog_12_method_65_code 15 = .ok (.aload_n 0, 1) := by decide +kernel
theorem d190_16 : decode prog_12_method_65_code 16 = .ok (.iload_n 1, 1) := by decide +kernel
theorem d190_17 : decode prog_12_method_65_code 17 = .ok (.invokevirtual 167, 3) := by decide +kernel
theorem d190_20 : decode prog_12_method_65_code 20 = .ok (.ireturn, 1) := by decide +kernel
theorem d191_0 : decode prog_12_method_66_code 0 = .ok (.aload_n 0, 1) := by decide +kernel
theorem d191_1 : decode prog_12_method_66_code 1 = .ok (.iload_n 1, 1) := by decide +kernel
theorem d191_2 : decode prog_12_method_66_code 2 = .ok (.invokestatic 97, 3) := by decide +kernel
theorem d191_5 : decode prog_12_method_66_code 5 = .ok (.ifCond .ne 7, 3) := by decide +kernel
theorem d191_8 : decode prog_12_method_66_code 8 = .ok (.iconst 1, 1) := by decide +kernel
theorem d191_9 : decode prog_12_method_66_code 9 = .ok (.goto 20, 3) := by decide +kernel
theorem d191_12 : decode prog_12_method_66_code 12 = .ok (.aload_n 0, 1) := by decide +kernel
theorem d191_13 : decode prog_12_method_66_code 13 = .ok (.getfield 7, 3) := by decide +kernel
theorem d191_16 : decode prog_12_method_66_code 16 = .ok (.bipush 12, 2) := by decide +kernel
theorem d191_18 : decode prog_12_method_66_code 18 = .ok (.iload_n 1, 1) := by decide +kernel
theorem d191_19 : decode prog_12_method_66_code 19 = .ok (.iadd, 1) := by decide +kernel
theorem d191_20 : decode prog_12_method_66_code 20 = .ok (.iaload, 1) := by decide +kernel
theorem d191_21 : decode prog_12_method_66_code 21 = .ok (.ifCond .ne 7, 3) := by decide +kernel
theorem d191_24 : decode prog_12_method_66_code 24 = .ok (.iconst 2, 1) := by decide +kernel
theorem d191_25 : decode prog_12_method_66_code 25 = .ok (.goto 4, 3) := by decide +kernel
theorem d191_28 : decode prog_12_method_66_code 28 = .ok (.iconst 0, 1) := by decide +kernel
theorem d191_29 : decode prog_12_method_66_code 29 = .ok (.putfield 28, 3) := by decide +kernel
theorem d191_32 : decode prog_12_method_66_code 32 = .ok (.aload_n 0, 1) := by decide +kernel
theorem d191_33 : decode prog_12_method_66_code 33 = .ok (.getfield 28, 3) := by decide +kernel
theorem d191_36 : decode prog_12_method_66_code 36 = .ok (.ifCond .le 7, 3) := by decide +kernel
theorem d191_39 : decode prog_12_method_66_code 39 = .ok (.iconst 0, 1) := by decide +kernel
theorem d191_40 : decode prog_12_method_66_code 40 = .ok (.goto 14, 3) := by decide +kernel
theorem d191_43 : decode prog_12_method_66_code 43 = .ok (.aload_n 0, 1) := by decide +kernel
theorem d191_44 : decode prog_12_method_66_code 44 = .ok (.getfield 7, 3) := by decide +kernel
theorem d191_47 : decode prog_12_method_66_code 47 = .ok (.bipush 12, 2) := by decide +kernel
theorem d191_49 : decode prog_12_method_66_code 49 = .ok (.iload_n 1, 1) := by decide +kernel
theorem d191_50 : decode prog_12_method_66_code 50 = .ok (.iadd, 1) := by decide +kernel
theorem d191_51 : decode prog_12_method_66_code 51 = .ok (.iaload, 1) := by decide +kernel
theorem d191_52 : decode prog_12_method_66_code 52 = .ok (.iconst 1, 1) := by decide +kernel
theorem d191_53 : decode prog_12_method_66_code 53 = .ok (.isub, 1) := by decide +kernel
theorem d191_54 : decode prog_12_method_66_code 54 = .ok (.ireturn, 1) := by decide +kernel
theorem d192_0 : decode prog_12_method_68_code 0 = .ok (.aload_n 0, 1) := by decide +kernel
theorem d192_1 : decode prog_12_method_68_code 1 = .ok (.iload_n 1, 1) := by decide +kernel
theorem d192_2 : decode prog_12_method_68_code 2 = .ok (.iconst 0, 1) := by decide +kernel
theorem d192_3 : decode prog_12_method_68_code 3 = .ok (.invokevirtual 217, 3) := by decide +kernel
theorem d192_6 : decode prog_12_method_68_code 6 = .ok (.ireturn, 1) := by decide +kernel
theorem d193_0 : decode prog_12_method_67_code 0 = .ok (.aload_n 0, 1) := by decide +kernel
theorem d193_1 : decode prog_12_method_67_code 1 = .ok (.iload_n 1, 1) := by decide +kernel
theorem d193_2 : decode prog_12_method_67_code 2 = .ok (.invokestatic 123, 3) := by decide +kernel
theorem d193_5 : decode prog_12_method_67_code 5 = .ok (.invokevirtual 210, 3) := by decide +kernel
theorem d193_8 : decode prog_12_method_67_code 8 = .ok (.ifCond .le 7, 3) := by decide +kernel
theorem d193_11 : decode prog_12_method_67_code 11 = .ok (.iconst 0, 1) := by decide +kernel
theorem d193_12 : decode prog_12_method_67_code 12 = .ok (.goto 9, 3) := by decide +kernel
theorem d193_15 : decode prog_12_method_67_code 15 = .ok (.aload_n 0, 1) := by decide +kernel
theorem d193_16 : decode prog_12_method_67_code 16 = .ok (.iload_n 1, 1) := by decide +kernel
theorem d193_17 : decode prog_12_method_67_code 17 = .ok (.iload_n 2, 1) := by decide +kernel
theorem d193_18 : decode prog_12_method_67_code 18 = .ok (.invokevirtual 147, 3) := by decide +kernel
theorem d193_21 : decode prog_12_method_67_code 21 = .ok (.ireturn, 1) := by decide +kernel
theorem d194_0 : decode prog_12_method_69_code 0 = .ok (.aload_n 0, 1) := by decide +kernel
theorem d194_1 : decode prog_12_method_69_code 1 = .ok (.iload_n 1, 1) := by decide +kernel
theorem d194_2 : decode prog_12_method_69_code 2 = .ok (.iconst 1, 1) := by decide +kernel
theorem d194_3 : decode prog_12_method_69_code 3 = .ok (.invokevirtual 217, 3) := by decide +kernel
theorem d194_6 : decode prog_12_method_69_code 6 = .ok (.ireturn, 1) := by decide +kernel
theorem d195_0 : decode prog_12_method_70_code 0 = .ok (.aload_n 0, 1) := by decide +kernel
theorem d195_1 : decode prog_12_method_70_code 1 = .ok (.iload_n 1, 1) := by decide +kernel
theorem d195_2 : decode prog_12_method_70_code 2 = .ok (.iconst 2, 1) := by decide +kernel
theorem d195_3 : decode prog_12_method_70_code 3 = .ok (.invokevirtual 217, 3) := by decide +kernel
theorem d195_6 : decode prog_12_method_70_code 6 = .ok (.ireturn, 1) := by decide +kernel
theorem d196_0 : decode prog_12_method_71_code 0 = .ok (.aload_n 0, 1) := by decide +kernel
theorem d196_1 : decode prog_12_method_71_code 1 = .ok (.iload_n 1, 1) := by decide +kernel
theorem d196_2 : decode prog_12_method_71_code 2 = .ok (.invokestatic 123, 3) := by decide +kernel
theorem d196_5 : decode prog_12_method_71_code 5 = .ok (.invokevirtual 210, 3) := by decide +kernel
theorem d196_8 : decode prog_12_method_71_code 8 = .ok (.ifCond .ne 15, 3) := by decide +kernel
theorem d196_11 : decode prog_12_method_71_code 11 = .ok (.aload_n 0, 1) := by decide +kernel
theorem d196_12 : decode prog_12_method_71_code 12 = .ok (.iload_n 1, 1) := by decide +kernel
theorem d196_13 : decode prog_12_method_71_code 13 = .ok (.invokevirtual 150, 3) := by decide +kernel
theorem d196_16 : decode prog_12_method_71_code 16 = .ok (.ifCond .eq 7, 3) := by decide +kernel
theorem d196_19 : decode prog_12_method_71_code 19 = .ok (.iconst 1, 1) := by decide +kernel
theorem d196_20 : decode prog_12_method_71_code 20 = .ok (.goto 4, 3) := by decide +kernel
theorem d196_23 : decode prog_12_method_71_code 23 = .ok (.iconst 0, 1) := by decide +kernel
theorem d196_24 : decode prog_12_method_71_code 24 = .ok (.ireturn, 1) := by decide +kernel
theorem d197_0 : decode prog_12_method_72_code 0 = .ok (.aload_n 0, 1) := by decide +kernel
theorem d197_1 : decode prog_12_method_72_code 1 = .ok (.iload_n 1, 1) := by decide +kernel
theorem d197_2 : decode prog_12_method_72_code 2 = .ok (.invokestatic 123, 3) := by decide +kernel
theorem d197_5 : decode prog_12_method_72_code 5 = .ok (.invokevirtual 210, 3) := by decide +kernel
theorem d197_8 : decode prog_12_method_72_code 8 = .ok (.ifCond .le 7, 3) := by decide +kernel
theorem d197_11 : decode prog_12_method_72_code 11 = .ok (.iconst 0, 1) := by decide +kernel
theorem d197_12 : decode prog_12_method_72_code 12 = .ok (.goto 8, 3) := by decide +kernel
theorem d197_15 : decode prog_12_method_72_code 15 = .ok (.aload_n 0, 1) := by decide +kernel
theorem d197_16 : decode prog_12_method_72_code 16 = .ok (.iload_n 1, 1) := by decide +kernel
theorem d197_17 : decode prog_12_method_72_code 17 = .ok (.invokevirtual 126, 3) := by decide +kernel
theorem d197_20 : decode prog_12_method_72_code 20 = .ok (.ireturn, 1) := by decide +kernel
theorem d198_0 : decode prog_12_method_74_code 0 = .ok (.aload_n 0, 1) := by decide +kernel
theorem d198_1 : decode prog_12_method_74_code 1 = .ok (.iload_n 1, 1) := by decide +kernel
theorem d198_2 : decode prog_12_method_74_code 2 = .ok (.iload_n 2, 1) := by decide +kernel
theorem d198_3 : decode prog_12_method_74_code 3 = .ok (.invokevirtual 220, 3) := by decide +kernel
theorem d198_6 : decode prog_12_method_74_code 6 = .ok (.ifCond .eq 33, 3) := by decide +kernel
theorem d198_9 : decode prog_12_method_74_code 9 = .ok (.aload_n 0, 1) := by decide +kernel
theorem d198_10 : decode prog_12_method_74_code 10 = .ok (.iload_n 1, 1) := by decide +kernel
theorem d198_11 : decode prog_12_method_74_code 11 = .ok (.aload_n 0, 1) := by decide +kernel
theorem d198_12 : decode prog_12_method_74_code 12 = .ok (.iload_n 2, 1) := by decide +kernel
theorem d198_13 : decode prog_12_method_74_code 13 = .ok (.invokevirtual 117, 3) := by decide +kernel
theorem d198_16 : decode prog_12_method_74_code 16 = .ok (.invokevirtual 182, 3) := by decide +kernel
theorem d198_19 : decode prog_12_method_74_code 19 = .ok (.ifCond .eq 20, 3) := by decide +kernel
theorem d198_22 : decode prog_12_method_74_code 22 = .ok (.aload_n 0, 1) := by decide +kernel
theorem d198_23 : decode prog_12_method_74_code 23 = .ok (.iload_n 1, 1) := by decide +kernel
theorem d198_24 : decode prog_12_method_74_code 24 = .ok (.aload_n 0, 1) := by decide +kernel
theorem d198_25 : decode prog_12_method_74_code 25 = .ok (.iload_n 2, 1) := by decide +kernel
theorem d198_26 : decode prog_12_method_74_code 26 = .ok (.invokevirtual 117, 3) := by decide +kernel
theorem d198_29 : decode prog_12_method_74_code 29 = .ok (.invokevirtual 186, 3) := by decide +kernel
theorem d198_32 : decode prog_12_method_74_code 32 = .ok (.ifCond .eq 7, 3) := by decide +kernel
theorem d198_35 : decode prog_12_method_74_code 35 = .ok (.iconst 1, 1) := by decide +kernel
theorem d198_36 : decode prog_12_method_74_code 36 = .ok (.goto 4, 3) := by decide +kernel
theorem d198_39 : decode prog_12_method_74_code 39 = .ok (.iconst 0, 1) := by decide +kernel
theorem d198_40 : decode prog_12_method_74_code 40 = .ok (.ireturn, 1) := by decide +kernel
theorem d199_0 : decode prog_12_method_73_code 0 = .ok (.aload_n 0, 1) := by decide +kernel
theorem d199_1 : decode prog_12_method_73_code 1 = .ok (.iload_n 1, 1) := by decide +kernel
theorem d199_2 : decode prog_12_method_73_code 2 = .ok (.invokestatic 123, 3) := by decide +kernel
theorem d199_5 : decode prog_12_method_73_code 5 = .ok (.ifCond .ne 7, 3) := by decide +kernel
theorem d199_8 : decode prog_12_method_73_code 8 = .ok (.iconst 1, 1) := by decide +kernel
theorem d199_9 : decode prog_12_method_73_code 9 = .ok (.goto 16, 3) := by decide +kernel
theorem d199_12 : decode prog_12_method_73_code 12 = .ok (.aload_n 0, 1) := by decide +kernel
theorem d199_13 : decode prog_12_method_73_code 13 = .ok (.iload_n 2, 1) := by decide +kernel
theorem d199_14 : decode prog_12_method_73_code 14 = .ok (.invokevirtual 117, 3) := by decide +kernel
theorem d199_17 : decode prog_12_method_73_code 17 = .ok (.ifCond .ge 7, 3) := by decide +kernel
theorem d199_20 : decode prog_12_method_73_code 20 = .ok (.iconst 2, 1) := by decide +kernel
theorem d199_21 : decode prog_12_method_73_code 21 = .ok (.goto 4, 3) := by decide +kernel
theorem d199_24 : decode prog_12_method_73_code 24 = .ok (.iconst 0, 1) := by decide +kernel
theorem d199_25 : decode prog_12_method_73_code 25 = .ok (.putfield 28, 3) := by decide +kernel
theorem d199_28 : decode prog_12_method_73_code 28 = .ok (.aload_n 0, 1) := by decide +kernel
theorem d199_29 : decode prog_12_method_73_code 29 = .ok (.getfield 28, 3) := by decide +kernel
theorem d199_32 : decode prog_12_method_73_code 32 = .ok (.ifCond .ne 7, 3) := by decide +kernel
theorem d199_35 : decode prog_12_method_73_code 35 = .ok (.iconst 1, 1) := by decide +kernel
theorem d199_36 : decode prog_12_method_73_code 36 = .ok (.goto 4, 3) := by decide +kernel
theorem d199_39 : decode prog_12_method_73_code 39 = .ok (.iconst 0, 1) := by decide +kernel
theorem d199_40 : decode prog_12_method_73_code 40 = .ok (.ireturn, 1) := by decide +kernel
theorem d200_0 : decode prog_12_method_75_code 0 = .ok (.aload_n 0, 1) := by decide +kernel
theorem d200_1 : decode prog_12_method_75_code 1 = .ok (.iload_n 1, 1) := by decide +kernel
theorem d200_2 : decode prog_12_method_75_code 2 = .ok (.iload_n 2, 1) := by decide +kernel
theorem d200_3 : decode prog_12_method_75_code 3 = .ok (.invokevirtual 220, 3) := by decide +kernel
theorem d200_6 : decode prog_12_method_75_code 6 = .ok (.ifCond .eq 16, 3) := by decide +kernel
theorem d200_9 : decode prog_12_method_75_code 9 = .ok (.aload_n 0, 1) := by decide +kernel
theorem d200_10 : decode prog_12_method_75_code 10 = .ok (.iload_n 1, 1) := by decide +kernel
theorem d200_11 : decode prog_12_method_75_code 11 = .ok (.aload_n 0, 1) := by decide +kernel
theorem d200_12 : decode prog_12_method_75_code 12 = .ok (.iload_n 2, 1) := by decide +kernel
theorem d200_13 : decode prog_12_method_75_code 13 = .ok (.invokevirtual 117, 3) := by decide +kernel
theorem d200_16 : decode prog_12_method_75_code 16 = .ok (.invokevirtual 189, 3) := by decide +kernel
theorem d200_19 : decode prog_12_method_75_code 19 = .ok (.goto 4, 3) := by decide +kernel
theorem d200_22 : decode prog_12_method_75_code 22 = .ok (.iconst 0, 1) := by decide +kernel
theorem d200_23 : decode prog_12_method_75_code 23 = .ok (.ireturn, 1) := by decide +kernel
theorem d201_0 : decode prog_12_method_76_code 0 = .ok (.aload_n 0, 1) := by decide +kernel
theorem d201_1 : decode prog_12_method_76_code 1 = .ok (.aload_n 0, 1) := by decide +kernel
theorem d201_2 : decode prog_12_method_76_code 2 = .ok (.iload_n 1, 1) := by decide +kernel
theorem d201_3 : decode prog_12_method_76_code 3 = .ok (.invokevirtual 117, 3) := by decide +kernel
theorem d201_6 : decode prog_12_method_76_code 6 = .ok (.ifCond .lt 7, 3) := by decide +kernel
theorem d201_9 : decode prog_12_method_76_code 9 = .ok (.iconst 1, 1) := by decide +kernel
theorem d201_10 : decode prog_12_method_76_code 10 = .ok (.goto 4, 3) := by decide +kernel
theorem d201_13 : decode prog_12_method_76_code 13 = .ok (.iconst 0, 1) := by decide +kernel
theorem d201_14 : decode prog_12_method_76_code 14 = .ok (.invokevirtual 210, 3) := by decide +kernel
theorem d201_17 : decode prog_12_method_76_code 17 = .ok (.ifCond .le 5, 3) := by decide +kernel
theorem d201_20 : decode prog_12_method_76_code 20 = .ok (.iconst 0, 1) := by decide +kernel
theorem d201_21 : decode prog_12_method_76_code 21 = .ok (.ireturn, 1) := by decide +kernel
theorem d201_22 : decode prog_12_method_76_code 22 = .ok (.iconst 0, 1) := by decide +kernel
theorem d201_23 : decode prog_12_method_76_code 23 = .ok (.istore_n 2, 1) := by decide +kernel
theorem d201_24 : decode prog_12_method_76_code 24 = .ok (.iconst 1, 1) := by decide +kernel
theorem d201_25 : decode prog_12_method_76_code 25 = .ok (.istore_n 3, 1) := by decide +kernel
theorem d201_26 : decode prog_12_method_76_code 26 = .ok (.iload_n 3, 1) := by decide +kernel
theorem d201_27 : decode prog_12_method_76_code 27 = .ok (.iconst 3, 1) := by decide +kernel
theorem d201_28 : decode prog_12_method_76_code 28 = .ok (.if_icmp .ge 38, 3) := by decide +kernel
theorem d201_31 : decode prog_12_method_76_code 31 = .ok (.aload_n 0, 1) := by decide +kernel
theorem d201_32 : decode prog_12_method_76_code 32 = .ok (.iload_n 3, 1) := by decide +kernel
theorem d201_33 : decode prog_12_method_76_code 33 = .ok (.aload_n 0, 1) := by decide +kernel
theorem d201_34 : decode prog_12_method_76_code 34 = .ok (.iload_n 1, 1) := by decide +kernel
theorem d201_35 : decode prog_12_method_76_code 35 = .ok (.invokevirtual 117, 3) := by decide +kernel
theorem d201_38 : decode prog_12_method_76_code 38 = .ok (.invokevirtual 189, 3) := by decide +kernel
theorem d201_41 : decode prog_12_method_76_code 41 = .ok (.aload_n 0, 1) := by decide +kernel
theorem d201_42 : decode prog_12_method_76_code 42 = .ok (.iload_n 2, 1) := by decide +kernel
theorem d201_43 : decode prog_12_method_76_code 43 = .ok (.aload_n 0, 1) := by decide +kernel
theorem d201_44 : decode prog_12_method_76_code 44 = .ok (.iload_n 1, 1) := by decide +kernel
theorem d201_45 : decode prog_12_method_76_code 45 = .ok (.invokevirtual 117, 3) := by decide +kernel
theorem d201_48 : decode prog_12_method_76_code 48 = .ok (.invokevirtual 189, 3) := by decide +kernel
theorem d201_51 : decode prog_12_method_76_code 51 = .ok (.if_icmp .ge 7, 3) := by decide +kernel
theorem d201_54 : decode prog_12_method_76_code 54 = .ok (.iload_n 3, 1) := by decide +kernel
theorem d201_55 : decode prog_12_method_76_code 55 = .ok (.goto 4, 3) := by decide +kernel
theorem d201_58 : decode prog_12_method_76_code 58 = .ok (.iload_n 2, 1) := by decide +kernel
theorem d201_59 : decode prog_12_method_76_code 59 = .ok (.istore_n 2, 1) := by decide +kernel
theorem d201_60 : decode prog_12_method_76_code 60 = .ok (.iinc 3 1, 3) := by decide +kernel
theorem d201_63 : decode prog_12_method_76_code 63 = .ok (.goto (-37), 3) := by decide +kernel
theorem d201_66 : decode prog_12_method_76_code 66 = .ok (.iload_n 2, 1) := by decide +kernel
theorem d201_67 : decode prog_12_method_76_code 67 = .ok (.ireturn, 1) := by decide +kernel
theorem d202_0 : decode prog_12_method_83_code 0 = .ok (.aload_n 0, 1) := by decide +kernel
theorem d202_1 : decode prog_12_method_83_code 1 = .ok (.iload_n 1, 1) := by decide +kernel
theorem d202_2 : decode prog_12_method_83_code 2 = .ok (.invokevirtual 241, 3) := by decide +kernel
theorem d202_5 : decode prog_12_method_83_code 5 = .ok (.ireturn, 1) := by decide +kernel
theorem d203_0 : decode prog_12_method_82_code 0 = .ok (.aload_n 0, 1) := by decide +kernel
theorem d203_1 : decode prog_12_method_82_code 1 = .ok (.iload_n 1, 1) := by decide +kernel
theorem d203_2 : decode prog_12_method_82_code 2 = .ok (.invokestatic 123, 3) := by decide +kernel
theorem d203_5 : decode prog_12_method_82_code 5 = .ok (.invokevirtual 210, 3) := by decide +kernel
theorem d203_8 : decode prog_12_method_82_code 8 = .ok (.ifCond .le 5, 3) := by decide +kernel
theorem d203_11 : decode prog_12_method_82_code 11 = .ok (.iconst 0, 1) := by decide +kernel
theorem d203_12 : decode prog_12_method_82_code 12 = .ok (.ireturn, 1) := by decide +kernel
theorem d203_13 : decode prog_12_method_82_code 13 = .ok (.aload_n 0, 1) := by decide +kernel
theorem d203_14 : decode prog_12_method_82_code 14 = .ok (.iload_n 1, 1) := by decide +kernel
theorem d203_15 : decode prog_12_method_82_code 15 = .ok (.invokevirtual 238, 3) := by decide +kernel
theorem d203_18 : decode prog_12_method_82_code 18 = .ok (.aload_n 0, 1) := by decide +kernel
theorem d203_19 : decode prog_12_method_82_code 19 = .ok (.getfield 44, 3) := by decide +kernel
theorem d203_22 : decode prog_12_method_82_code 22 = .ok (.ireturn, 1) := by decide +kernel
theorem d204_0 : decode prog_12_method_81_code 0 = .ok (.aload_n 0, 1) := by decide +kernel
theorem d204_1 : decode prog_12_method_81_code 1 = .ok (.iconst 0, 1) := by decide +kernel
theorem d204_2 : decode prog_12_method_81_code 2 = .ok (.putfield 41, 3) := by decide +kernel
theorem d204_5 : decode prog_12_method_81_code 5 = .ok (.iconst 0, 1) := by decide +kernel
theorem d204_6 : decode prog_12_method_81_code 6 = .ok (.istore_n 2, 1) := by decide +kernel
theorem d204_7 : decode prog_12_method_81_code 7 = .ok (.iload_n 2, 1) := by decide +kernel
theorem d204_8 : decode prog_12_method_81_code 8 = .ok (.aload_n 0, 1) := by decide +kernel
theorem d204_9 : decode prog_12_method_81_code 9 = .ok (.getfield 7, 3) := by decide +kernel
theorem d204_12 : decode prog_12_method_81_code 12 = .ok (.iconst 0, 1) := by decide +kernel
theorem d204_13 : decode prog_12_method_81_code 13 = .ok (.iaload, 1) := by decide +kernel
theorem d204_14 : decode prog_12_method_81_code 14 = .ok (.if_icmp .ge 45, 3) := by decide +kernel
theorem d204_17 : decode prog_12_method_81_code 17 = .ok (.aload_n 0, 1) := by decide +kernel
theorem d204_18 : decode prog_12_method_81_code 18 = .ok (.iload_n 2, 1) := by decide +kernel
theorem d204_19 : decode prog_12_method_81_code 19 = .ok (.bipush 7, 2) := by decide +kernel
theorem d204_21 : decode prog_12_method_81_code 21 = .ok (.invokevirtual 85, 3) := by decide +kernel
theorem d204_24 : decode prog_12_method_81_code 24 = .ok (.iload_n 1, 1) := by decide +kernel
theorem d204_25 : decode prog_12_method_81_code 25 = .ok (.iconst 1, 1) := by decide +kernel
theorem d204_26 : decode prog_12_method_81_code 26 = .ok (.iadd, 1) := by decide +kernel
theorem d204_27 : decode prog_12_method_81_code 27 = .ok (.if_icmp .eq 6, 3) := by decide +kernel
theorem d204_30 : decode prog_12_method_81_code 30 = .ok (.goto 23, 3) := by decide +kernel
theorem d204_33 : decode prog_12_method_81_code 33 = .ok (.aload_n 0, 1) := by decide +kernel
theorem d204_34 : decode prog_12_method_81_code 34 = .ok (.getfield 22, 3) := by decide +kernel
theorem d204_37 : decode prog_12_method_81_code 37 = .ok (.aload_n 0, 1) := by decide +kernel
theorem d204_38 : decode prog_12_method_81_code 38 = .ok (.getfield 41, 3) := by decide +kernel
theorem d204_41 : decode prog_12_method_81_code 41 = .ok (.iload_n 2, 1) := by decide +kernel
theorem d204_42 : decode prog_12_method_81_code 42 = .ok (.iastore, 1) := by decide +kernel
theorem d204_43 : decode prog_12_method_81_code 43 = .ok (.aload_n 0, 1) := by decide +kernel
theorem d204_44 : decode prog_12_method_81_code 44 = .ok (.dup, 1) := by decide +kernel
theorem d204_45 : decode prog_12_method_81_code 45 = .ok (.getfield 41, 3) := by decide +kernel
theorem d204_48 : decode prog_12_method_81_code 48 = .ok (.iconst 1, 1) := by decide +kernel
theorem d204_49 : decode prog_12_method_81_code 49 = .ok (.iadd, 1) := by decide +kernel
theorem d204_50 : decode prog_12_method_81_code 50 = .ok (.putfield 41, 3) := by decide +kernel
theorem d204_53 : decode prog_12_method_81_code 53 = .ok (.iinc 2 1, 3) := by decide +kernel
theorem d204_56 : decode prog_12_method_81_code 56 = .ok (.goto (-49), 3) := by decide +kernel
theorem d204_59 : decode prog_12_method_81_code 59 = .ok (.aload_n 0, 1) := by decide +kernel
theorem d204_60 : decode prog_12_method_81_code 60 = .ok (.aload_n 0, 1) := by decide +kernel
theorem d204_61 : decode prog_12_method_81_code 61 = .ok (.iload_n 1, 1) := by decide +kernel
theorem d204_62 : decode prog_12_method_81_code 62 = .ok (.invokevirtual 227, 3) := by decide +kernel
theorem d204_65 : decode prog_12_method_81_code 65 = .ok (.invokevirtual 230, 3) := by decide +kernel
theorem d204_68 : decode prog_12_method_81_code 68 = .ok (.aload_n 0, 1) := by decide +kernel
theorem d204_69 : decode prog_12_method_81_code 69 = .ok (.invokevirtual 234, 3) := by decide +kernel
theorem d204_72 : decode prog_12_method_81_code 72 = .ok (.ifCond .eq 25, 3) := by decide +kernel
theorem d204_75 : decode prog_12_method_81_code 75 = .ok (.aload_n 0, 1) := by decide +kernel
theorem d204_76 : decode prog_12_method_81_code 76 = .ok (.iload_n 1, 1) := by decide +kernel
theorem d204_77 : decode prog_12_method_81_code 77 = .ok (.invokevirtual 227, 3) := by decide +kernel
theorem d204_80 : decode prog_12_method_81_code 80 = .ok (.istore_n 2, 1) := by decide +kernel
theorem d204_81 : decode prog_12_method_81_code 81 = .ok (.iload_n 2, 1) := by decide +kernel
theorem d204_82 : decode prog_12_method_81_code 82 = .ok (.aload_n 0, 1) := by decide +kernel
theorem d204_83 : decode prog_12_method_81_code 83 = .ok (.getfield 44, 3) := by decide +kernel
theorem d204_86 : decode prog_12_method_81_code 86 = .ok (.if_icmp .ge 8, 3) := by decide +kernel
theorem d204_89 : decode prog_12_method_81_code 89 = .ok (.aload_n 0, 1) := by decide +kernel
theorem d204_90 : decode prog_12_method_81_code 90 = .ok (.iload_n 2, 1) := by decide +kernel
theorem d204_91 : decode prog_12_method_81_code 91 = .ok (.invokevirtual 230, 3) := by decide +kernel
theorem d204_94 : decode prog_12_method_81_code 94 = .ok (.goto (-26), 3) := by decide +kernel
theorem d204_97 : decode prog_12_method_81_code 97 = .ok (.return_, 1) := by decide +kernel
theorem d205_0 : decode prog_12_method_77_code 0 = .ok (.aload_n 0, 1) := by decide +kernel
theorem d205_1 : decode prog_12_method_77_code 1 = .ok (.iload_n 1, 1) := by decide +kernel
theorem d205_2 : decode prog_12_method_77_code 2 = .ok (.iconst 2, 1) := by decide +kernel
theorem d205_3 : decode prog_12_method_77_code 3 = .ok (.invokevirtual 147, 3) := by decide +kernel
theorem d205_6 : decode prog_12_method_77_code 6 = .ok (.istore_n 2, 1) := by decide +kernel
theorem d205_7 : decode prog_12_method_77_code 7 = .ok (.aload_n 0, 1) := by decide +kernel
theorem d205_8 : decode prog_12_method_77_code 8 = .ok (.iload_n 1, 1) := by decide +kernel
theorem d205_9 : decode prog_12_method_77_code 9 = .ok (.iconst 0, 1) := by decide +kernel
theorem d205_10 : decode prog_12_method_77_code 10 = .ok (.invokevirtual 147, 3) := by decide +kernel
theorem d205_13 : decode prog_12_method_77_code 13 = .ok (.istore_n 3, 1) := by decide +kernel
theorem d205_14 : decode prog_12_method_77_code 14 = .ok (.aload_n 0, 1) := by decide +kernel
theorem d205_15 : decode prog_12_method_77_code 15 = .ok (.iload_n 1, 1) := by decide +kernel
theorem d205_16 : decode prog_12_method_77_code 16 = .ok (.iconst 1, 1) := by decide +kernel
theorem d205_17 : decode prog_12_method_77_code 17 = .ok (.invokevirtual 147, 3) := by decide +kernel
theorem d205_20 : decode prog_12_method_77_code 20 = .ok (.istore 4, 2) := by decide +kernel
theorem d205_22 : decode prog_12_method_77_code 22 = .ok (.iconst 0, 1) := by decide +kernel
theorem d205_23 : decode prog_12_method_77_code 23 = .ok (.istore 5, 2) := by decide +kernel
theorem d205_25 : decode prog_12_method_77_code 25 = .ok (.iconst 0, 1) := by decide +kernel
theorem d205_26 : decode prog_12_method_77_code 26 = .ok (.istore 6, 2) := by decide +kernel
theorem d205_28 : decode prog_12_method_77_code 28 = .ok (.iload 6, 2) := by decide +kernel
theorem d205_30 : decode prog_12_method_77_code 30 = .ok (.aload_n 0, 1) := by decide +kernel
theorem d205_31 : decode prog_12_method_77_code 31 = .ok (.getfield 41, 3) := by decide +kernel
theorem d205_34 : decode prog_12_method_77_code 34 = .ok (.if_icmp .ge 101, 3) := by decide +kernel
theorem d205_37 : decode prog_12_method_77_code 37 = .ok (.aload_n 0, 1) := by decide +kernel
theorem d205_38 : decode prog_12_method_77_code 38 = .ok (.getfield 22, 3) := by decide +kernel
theorem d205_41 : decode prog_12_method_77_code 41 = .ok (.iload 6, 2) := by decide +kernel
theorem d205_43 : decode prog_12_method_77_code 43 = .ok (.iaload, 1) := by decide +kernel
theorem d205_44 : decode prog_12_method_77_code 44 = .ok (.istore 7, 2) := by decide +kernel
theorem d205_46 : decode prog_12_method_77_code 46 = .ok (.iload_n 2, 1) := by decide +kernel
theorem d205_47 : decode prog_12_method_77_code 47 = .ok (.iload_n 3, 1) := by decide +kernel
theorem d205_48 : decode prog_12_method_77_code 48 = .ok (.aload_n 0, 1) := by decide +kernel
theorem d205_49 : decode prog_12_method_77_code 49 = .ok (.iload 7, 2) := by decide +kernel
theorem d205_51 : decode prog_12_method_77_code 51 = .ok (.iconst 1, 1) := by decide +kernel
theorem d205_52 : decode prog_12_method_77_code 52 = .ok (.invokevirtual 85, 3) := by decide +kernel
theorem d205_55 : decode prog_12_method_77_code 55 = .ok (.invokestatic 176, 3) := by decide +kernel
theorem d205_58 : decode prog_12_method_77_code 58 = .ok (.iload 4, 2) := by decide +kernel
theorem d205_60 : decode prog_12_method_77_code 60 = .ok (.aload_n 0, 1) := by decide +kernel
theorem d205_61 : decode prog_12_method_77_code 61 = .ok (.iload 7, 2) := by decide +kernel
theorem d205_63 : decode prog_12_method_77_code 63 = .ok (.iconst 2, 1) := by decide +kernel
theorem d205_64 : decode prog_12_method_77_code 64 = .ok (.invokevirtual 85, 3) := by decide +kernel
theorem d205_67 : decode prog_12_method_77_code 67 = .ok (.invokestatic 176, 3) := by decide +kernel
theorem d205_70 : decode prog_12_method_77_code 70 = .ok (.iadd, 1) := by decide +kernel
theorem d205_71 : decode prog_12_method_77_code 71 = .ok (.aload_n 0, 1) := by decide +kernel
theorem d205_72 : decode prog_12_method_77_code 72 = .ok (.iload 7, 2) := by decide +kernel
theorem d205_74 : decode prog_12_method_77_code 74 = .ok (.iconst 5, 1) := by decide +kernel
theorem d205_75 : decode prog_12_method_77_code 75 = .ok (.invokevirtual 85, 3) := by decide +kernel
theorem d205_78 : decode prog_12_method_77_code 78 = .ok (.iadd, 1) := by decide +kernel
theorem d205_79 : decode prog_12_method_77_code 79 = .ok (.iadd, 1) := by decide +kernel
theorem d205_80 : decode prog_12_method_77_code 80 = .ok (.istore_n 2, 1) := by decide +kernel
theorem d205_81 : decode prog_12_method_77_code 81 = .ok (.iload 5, 2) := by decide +kernel
theorem d205_83 : decode prog_12_method_77_code 83 = .ok (.iload_n 2, 1) := by decide +kernel
theorem d205_84 : decode prog_12_method_77_code 84 = .ok (.aload_n 0, 1) := by decide +kernel
theorem d205_85 : decode prog_12_method_77_code 85 = .ok (.iload 7, 2) := by decide +kernel
theorem d205_87 : decode prog_12_method_77_code 87 = .ok (.bipush 6, 2) := by decide +kernel
theorem d205_89 : decode prog_12_method_77_code 89 = .ok (.invokevirtual 85, 3) := by decide +kernel
theorem d205_92 : decode prog_12_method_77_code 92 = .ok (.if_icmp .le 16, 3) := by decide +kernel
theorem d205_95 : decode prog_12_method_77_code 95 = .ok (.iload_n 2, 1) := by decide +kernel
theorem d205_96 : decode prog_12_method_77_code 96 = .ok (.aload_n 0, 1) := by decide +kernel
theorem d205_97 : decode prog_12_method_77_code 97 = .ok (.iload 7, 2) := by decide +kernel
theorem d205_99 : decode prog_12_method_77_code 99 = .ok (.bipush 6, 2) := by decide +kernel
theorem d205_101 : decode prog_12_method_77_code 101 = .ok (.invokevirtual 85, 3) := by decide +kernel
theorem d205_104 : decode prog_12_method_77_code 104 = .ok (.isub, 1) := by decide +kernel
theorem d205_105 : decode prog_12_method_77_code 105 = .ok (.goto 4, 3) := by decide +kernel
theorem d205_108 : decode prog_12_method_77_code 108 = .ok (.iconst 0, 1) := by decide +kernel
theorem d205_109 : decode prog_12_method_77_code 109 = .ok (.iadd, 1) := by decide +kernel
theorem d205_110 : decode prog_12_method_77_code 110 = .ok (.istore 5, 2) := by decide +kernel
theorem d205_112 : decode prog_12_method_77_code 112 = .ok (.aload_n 0, 1) := by decide +kernel
theorem d205_113 : decode prog_12_method_77_code 113 = .ok (.iload 7, 2) := by decide +kernel
theorem d205_115 : decode prog_12_method_77_code 115 = .ok (.iconst 1, 1) := by decide +kernel
theorem d205_116 : decode prog_12_method_77_code 116 = .ok (.invokevirtual 85, 3) := by decide +kernel
theorem d205_119 : decode prog_12_method_77_code 119 = .ok (.istore_n 3, 1) := by decide +kernel
theorem d205_120 : decode prog_12_method_77_code 120 = .ok (.aload_n 0, 1) := by decide +kernel
theorem d205_121 : decode prog_12_method_77_code 121 = .ok (.iload 7, 2) := by decide +kernel
theorem d205_123 : decode prog_12_method_77_code 123 = .ok (.iconst 2, 1) := by decide +kernel
theorem d205_124 : decode prog_12_method_77_code 124 = .ok (.invokevirtual 85, 3) := by decide +kernel
theorem d205_127 : decode prog_12_method_77_code 127 = .ok (.istore 4, 2) := by decide +kernel
theorem d205_129 : decode prog_12_method_77_code 129 = .ok (.iinc 6 1, 3) := by decide +kernel
theorem d205_132 : decode prog_12_method_77_code 132 = .ok (.goto (-104), 3) := by decide +kernel
theorem d205_135 : decode prog_12_method_77_code 135 = .ok (.iload 5, 2) := by decide +kernel
theorem d205_137 : decode prog_12_method_77_code 137 = .ok (.ireturn, 1) := by decide +kernel
theorem d206_0 : decode prog_12_method_80_code 0 = .ok (.aload_n 0, 1) := by decide +kernel
theorem d206_1 : decode prog_12_method_80_code 1 = .ok (.iload_n 1, 1) := by decide +kernel
theorem d206_2 : decode prog_12_method_80_code 2 = .ok (.putfield 44, 3) := by decide +kernel
theorem d206_5 : decode prog_12_method_80_code 5 = .ok (.iconst 0, 1) := by decide +kernel
theorem d206_6 : decode prog_12_method_80_code 6 = .ok (.istore_n 2, 1) := by decide +kernel
theorem d206_7 : decode prog_12_method_80_code 7 = .ok (.iload_n 2, 1) := by decide +kernel
theorem d206_8 : decode prog_12_method_80_code 8 = .ok (.aload_n 0, 1) := by decide +kernel
theorem d206_9 : decode prog_12_method_80_code 9 = .ok (.getfield 41, 3) := by decide +kernel
theorem d206_12 : decode prog_12_method_80_code 12 = .ok (.if_icmp .ge 21, 3) := by decide +kernel
theorem d206_15 : decode prog_12_method_80_code 15 = .ok (.aload_n 0, 1) := by decide +kernel
theorem d206_16 : decode prog_12_method_80_code 16 = .ok (.getfield 25, 3) := by decide +kernel
theorem d206_19 : decode prog_12_method_80_code 19 = .ok (.iload_n 2, 1) := by decide +kernel
theorem d206_20 : decode prog_12_method_80_code 20 = .ok (.aload_n 0, 1) := by decide +kernel
theorem d206_21 : decode prog_12_method_80_code 21 = .ok (.getfield 22, 3) := by decide +kernel
theorem d206_24 : decode prog_12_method_80_code 24 = .ok (.iload_n 2, 1) := by decide +kernel
theorem d206_25 : decode prog_12_method_80_code 25 = .ok (.iaload, 1) := by decide +kernel
theorem d206_26 : decode prog_12_method_80_code 26 = .ok (.iastore, 1) := by decide +kernel
theorem d206_27 : decode prog_12_method_80_code 27 = .ok (.iinc 2 1, 3) := by decide +kernel
theorem d206_30 : decode prog_12_method_80_code 30 = .ok (.goto (-23), 3) := by decide +kernel
theorem d206_33 : decode prog_12_method_80_code 33 = .ok (.return_, 1) := by decide +kernel
theorem d207_0 : decode prog_12_method_79_code 0 = .ok (.aload_n 0, 1) := by decide +kernel
theorem d207_1 : decode prog_12_method_79_code 1 = .ok (.getfield 41, 3) := by decide +kernel
theorem d207_4 : decode prog_12_method_79_code 4 = .ok (.iconst 2, 1) := by decide +kernel
theorem d207_5 : decode prog_12_method_79_code 5 = .ok (.isub, 1) := by decide +kernel
theorem d207_6 : decode prog_12_method_79_code 6 = .ok (.istore_n 1, 1) := by decide +kernel
theorem d207_7 : decode prog_12_method_79_code 7 = .ok (.iload_n 1, 1) := by decide +kernel
theorem d207_8 : decode prog_12_method_79_code 8 = .ok (.ifCond .lt 26, 3) := by decide +kernel
theorem d207_11 : decode prog_12_method_79_code 11 = .ok (.aload_n 0, 1) := by decide +kernel
theorem d207_12 : decode prog_12_method_79_code 12 = .ok (.getfield 22, 3) := by decide +kernel
theorem d207_15 : decode prog_12_method_79_code 15 = .ok (.iload_n 1, 1) := by decide +kernel
theorem d207_16 : decode prog_12_method_79_code 16 = .ok (.iaload, 1) := by decide +kernel
theorem d207_17 : decode prog_12_method_79_code 17 = .ok (.aload_n 0, 1) := by decide +kernel
theorem d207_18 : decode prog_12_method_79_code 18 = .ok (.getfield 22, 3) := by decide +kernel
theorem d207_21 : decode prog_12_method_79_code 21 = .ok (.iload_n 1, 1) := by decide +kernel
theorem d207_22 : decode prog_12_method_79_code 22 = .ok (.iconst 1, 1) := by decide +kernel
theorem d207_23 : decode prog_12_method_79_code 23 = .ok (.iadd, 1) := by decide +kernel
theorem d207_24 : decode prog_12_method_79_code 24 = .ok (.iaload, 1) := by decide +kernel
theorem d207_25 : decode prog_12_method_79_code 25 = .ok (.if_icmp .le 9, 3) := by decide +kernel
theorem d207_28 : decode prog_12_method_79_code 28 = .ok (.iinc 1 (-1), 3) := by decide +kernel
theorem d207_31 : decode prog_12_method_79_code 31 = .ok (.goto (-24), 3) := by decide +kernel
theorem d207_34 : decode prog_12_method_79_code 34 = .ok (.iload_n 1, 1) := by decide +kernel
theorem d207_35 : decode prog_12_method_79_code 35 = .ok (.ifCond .ge 5, 3) := by decide +kernel
theorem d207_38 : decode prog_12_method_79_code 38 = .ok (.iconst 0, 1) := by decide +kernel
theorem d207_39 : decode prog_12_method_79_code 39 = .ok (.ireturn, 1) := by decide +kernel
theorem d207_40 : decode prog_12_method_79_code 40 = .ok (.aload_n 0, 1) := by decide +kernel
theorem d207_41 : decode prog_12_method_79_code 41 = .ok (.getfield 41, 3) := by decide +kernel
theorem d207_44 : decode prog_12_method_79_code 44 = .ok (.iconst 1, 1) := by decide +kernel
theorem d207_45 : decode prog_12_method_79_code 45 = .ok (.isub, 1) := by decide +kernel
theorem d207_46 : decode prog_12_method_79_code 46 = .ok (.istore_n 2, 1) := by decide +kernel
theorem d207_47 : decode prog_12_method_79_code 47 = .ok (.aload_n 0, 1) := by decide +kernel
theorem d207_48 : decode prog_12_method_79_code 48 = .ok (.getfield 22, 3) := by decide +kernel
theorem d207_51 : decode prog_12_method_79_code 51 = .ok (.iload_n 2, 1) := by decide +kernel
theorem d207_52 : decode prog_12_method_79_code 52 = .ok (.iaload, 1) := by decide +kernel
theorem d207_53 : decode prog_12_method_79_code 53 = .ok (.aload_n 0, 1) := by decide +kernel
theorem d207_54 : decode prog_12_method_79_code 54 = .ok (.getfield 22, 3) := by decide +kernel
theorem d207_57 : decode prog_12_method_79_code 57 = .ok (.iload_n 1, 1) := by decide +kernel
theorem d207_58 : decode prog_12_method_79_code 58 = .ok (.iaload, 1) := by decide +kernel
theorem d207_59 : decode prog_12_method_79_code 59 = .ok (.if_icmp .ge 9, 3) := by decide +kernel
theorem d207_62 : decode prog_12_method_79_code 62 = .ok (.iinc 2 (-1), 3) := by decide +kernel
theorem d207_65 : decode prog_12_method_79_code 65 = .ok (.goto (-18), 3) := by decide +kernel
theorem d207_68 : decode prog_12_method_79_code 68 = .ok (.aload_n 0, 1) := by decide +kernel
theorem d207_69 : decode prog_12_method_79_code 69 = .ok (.iload_n 1, 1) := by decide +kernel
theorem d207_70 : decode prog_12_method_79_code 70 = .ok (.iload_n 2, 1) := by decide +kernel
theorem d207_71 : decode prog_12_method_79_code 71 = .ok (.invokevirtual 223, 3) := by decide +kernel
theorem d207_74 : decode prog_12_method_79_code 74 = .ok (.iload_n 1, 1) := by decide +kernel
theorem d207_75 : decode prog_12_method_79_code 75 = .ok (.iconst 1, 1) := by decide +kernel
theorem d207_76 : decode prog_12_method_79_code 76 = .ok (.iadd, 1) := by decide +kernel
theorem d207_77 : decode prog_12_method_79_code 77 = .ok (.istore_n 3, 1) := by decide +kernel
theorem d207_78 : decode prog_12_method_79_code 78 = .ok (.aload_n 0, 1) := by decide +kernel
theorem d207_79 : decode prog_12_method_79_code 79 = .ok (.getfield 41, 3) := by decide +kernel
theorem d207_82 : decode prog_12_method_79_code 82 = .ok (.iconst 1, 1) := by decide +kernel
theorem d207_83 : decode prog_12_method_79_code 83 = .ok (.isub, 1) := by decide +kernel
theorem d207_84 : decode prog_12_method_79_code 84 = .ok (.istore 4, 2) := by decide +kernel
theorem d207_86 : decode prog_12_method_79_code 86 = .ok (.iload_n 3, 1) := by decide +kernel
theorem d207_87 : decode prog_12_method_79_code 87 = .ok (.iload 4, 2) := by decide +kernel
theorem d207_89 : decode prog_12_method_79_code 89 = .ok (.if_icmp .ge 19, 3) := by decide +kernel
theorem d207_92 : decode prog_12_method_79_code 92 = .ok (.aload_n 0, 1) := by decide +kernel
theorem d207_93 : decode prog_12_method_79_code 93 = .ok (.iload_n 3, 1) := by decide +kernel
theorem d207_94 : decode prog_12_method_79_code 94 = .ok (.iload 4, 2) := by decide +kernel
theorem d207_96 : decode prog_12_method_79_code 96 = .ok (.invokevirtual 223, 3) := by decide +kernel
theorem d207_99 : decode prog_12_method_79_code 99 = .ok (.iinc 3 1, 3) := by decide +kernel
theorem d207_102 : decode prog_12_method_79_code 102 = .ok (.iinc 4 (-1), 3) := by decide +kernel
theorem d207_105 : decode prog_12_method_79_code 105 = .ok (.goto (-19), 3) := by decide +kernel
theorem d207_108 : decode prog_12_method_79_code 108 = .ok (.iconst 1, 1) := by decide +kernel
theorem d207_109 : decode prog_12_method_79_code 109 = .ok (.ireturn, 1) := by decide +kernel
theorem d208_0 : decode prog_12_method_78_code 0 = .ok (.aload_n 0, 1) := by decide +kernel
theorem d208_1 : decode prog_12_method_78_code 1 = .ok (.getfield 22, 3) := by decide +kernel
theorem d208_4 : decode prog_12_method_78_code 4 = .ok (.iload_n 1, 1) := by decide +kernel
theorem d208_5 : decode prog_12_method_78_code 5 = .ok (.iaload, 1) := by decide +kernel
theorem d208_6 : decode prog_12_method_78_code 6 = .ok (.istore_n 3, 1) := by decide +kernel
theorem d208_7 : decode prog_12_method_78_code 7 = .ok (.aload_n 0, 1) := by decide +kernel
theorem d208_8 : decode prog_12_method_78_code 8 = .ok (.getfield 22, 3) := by decide +kernel
theorem d208_11 : decode prog_12_method_78_code 11 = .ok (.iload_n 1, 1) := by decide +kernel
theorem d208_12 : decode prog_12_method_78_code 12 = .ok (.aload_n 0, 1) := by decide +kernel
theorem d208_13 : decode prog_12_method_78_code 13 = .ok (.getfield 22, 3) := by decide +kernel
theorem d208_16 : decode prog_12_method_78_code 16 = .ok (.iload_n 2, 1) := by decide +kernel
theorem d208_17 : decode prog_12_method_78_code 17 = .ok (.iaload, 1) := by decide +kernel
theorem d208_18 : decode prog_12_method_78_code 18 = .ok (.iastore, 1) := by decide +kernel
theorem d208_19 : decode prog_12_method_78_code 19 = .ok (.aload_n 0, 1) := by decide +kernel
theorem d208_20 : decode prog_12_method_78_code 20 = .ok (.getfield 22, 3) := by decide +kernel
theorem d208_23 : decode prog_12_method_78_code 23 = .ok (.iload_n 2, 1) := by decide +kernel
theorem d208_24 : decode prog_12_method_78_code 24 = .ok (.iload_n 3, 1) := by decide +kernel
theorem d208_25 : decode prog_12_method_78_code 25 = .ok (.iastore, 1) := by decide +kernel
theorem d208_26 : decode prog_12_method_78_code 26 = .ok (.return_, 1) := by decide +kernel
theorem d209_0 : decode prog_12_method_84_code 0 = .ok (.aload_n 0, 1) := by decide +kernel
theorem d209_1 : decode prog_12_method_84_code 1 = .ok (.iload_n 1, 1) := by decide +kernel
theorem d209_2 : decode prog_12_method_84_code 2 = .ok (.invokevirtual 241, 3) := by decide +kernel
theorem d209_5 : decode prog_12_method_84_code 5 = .ok (.ireturn, 1) := by decide +kernel
theorem d210_0 : decode prog_12_method_85_code 0 = .ok (.aload_n 0, 1) := by decide +kernel
theorem d210_1 : decode prog_12_method_85_code 1 = .ok (.iload_n 1, 1) := by decide +kernel
theorem d210_2 : decode prog_12_method_85_code 2 = .ok (.invokestatic 123, 3) := by decide +kernel
theorem d210_5 : decode prog_12_method_85_code 5 = .ok (.invokevirtual 210, 3) := by decide +kernel
theorem d210_8 : decode prog_12_method_85_code 8 = .ok (.ifCond .le 5, 3) := by decide +kernel
theorem d210_11 : decode prog_12_method_85_code 11 = .ok (.iconst 0, 1) := by decide +kernel
theorem d210_12 : decode prog_12_method_85_code 12 = .ok (.ireturn, 1) := by decide +kernel
theorem d210_13 : decode prog_12_method_85_code 13 = .ok (.aload_n 0, 1) := by decide +kernel
theorem d210_14 : decode prog_12_method_85_code 14 = .ok (.iload_n 1, 1) := by decide +kernel
theorem d210_15 : decode prog_12_method_85_code 15 = .ok (.invokevirtual 238, 3) := by decide +kernel
theorem d210_18 : decode prog_12_method_85_code 18 = .ok (.iload_n 2, 1) := by decide +kernel
theorem d210_19 : decode prog_12_method_85_code 19 = .ok (.iconst 0, 1) := by decide +kernel
theorem d210_20 : decode prog_12_method_85_code 20 = .ok (.aload_n 0, 1) := by decide +kernel
theorem d210_21 : decode prog_12_method_85_code 21 = .ok (.getfield 41, 3) := by decide +kernel
theorem d210_24 : decode prog_12_method_85_code 24 = .ok (.iconst 1, 1) := by decide +kernel
theorem d210_25 : decode prog_12_method_85_code 25 = .ok (.isub, 1) := by decide +kernel
theorem d210_26 : decode prog_12_method_85_code 26 = .ok (.invokestatic 89, 3) := by decide +kernel
theorem d210_29 : decode prog_12_method_85_code 29 = .ok (.ifCond .eq 17, 3) := by decide +kernel
theorem d210_32 : decode prog_12_method_85_code 32 = .ok (.aload_n 0, 1) := by decide +kernel
theorem d210_33 : decode prog_12_method_85_code 33 = .ok (.aload_n 0, 1) := by decide +kernel
theorem d210_34 : decode prog_12_method_85_code 34 = .ok (.getfield 25, 3) := by decide +kernel
theorem d210_37 : decode prog_12_method_85_code 37 = .ok (.iload_n 2, 1) := by decide +kernel
theorem d210_38 : decode prog_12_method_85_code 38 = .ok (.iaload, 1) := by decide +kernel
theorem d210_39 : decode prog_12_method_85_code 39 = .ok (.iconst 0, 1) := by decide +kernel
theorem d210_40 : decode prog_12_method_85_code 40 = .ok (.invokevirtual 85, 3) := by decide +kernel
theorem d210_43 : decode prog_12_method_85_code 43 = .ok (.goto 8, 3) := by decide +kernel
theorem d210_46 : decode prog_12_method_85_code 46 = .ok (.aload_n 0, 1) := by decide +kernel
theorem d210_47 : decode prog_12_method_85_code 47 = .ok (.iconst 2, 1) := by decide +kernel
theorem d210_48 : decode prog_12_method_85_code 48 = .ok (.invokevirtual 107, 3) := by decide +kernel
theorem d210_51 : decode prog_12_method_85_code 51 = .ok (.ireturn, 1) := by decide +kernel
theorem d211_0 : decode prog_12_method_86_code 0 = .ok (.aload_n 0, 1) := by decide +kernel
theorem d211_1 : decode prog_12_method_86_code 1 = .ok (.iload_n 1, 1) := by decide +kernel
theorem d211_2 : decode prog_12_method_86_code 2 = .ok (.iconst 3, 1) := by decide +kernel
theorem d211_3 : decode prog_12_method_86_code 3 = .ok (.invokevirtual 217, 3) := by decide +kernel
theorem d211_6 : decode prog_12_method_86_code 6 = .ok (.ireturn, 1) := by decide +kernel
theorem d212_0 : decode prog_12_method_87_code 0 = .ok (.aload_n 0, 1) := by decide +kernel
theorem d212_1 : decode prog_12_method_87_code 1 = .ok (.aload_n 0, 1) := by decide +kernel
theorem d212_2 : decode prog_12_method_87_code 2 = .ok (.iconst 0, 1) := by decide +kernel
theorem d212_3 : decode prog_12_method_87_code 3 = .ok (.iconst 3, 1) := by decide +kernel
theorem d212_4 : decode prog_12_method_87_code 4 = .ok (.invokevirtual 147, 3) := by decide +kernel
theorem d212_7 : decode prog_12_method_87_code 7 = .ok (.aload_n 0, 1) := by decide +kernel
theorem d212_8 : decode prog_12_method_87_code 8 = .ok (.iconst 1, 1) := by decide +kernel
theorem d212_9 : decode prog_12_method_87_code 9 = .ok (.iconst 3, 1) := by decide +kernel
theorem d212_10 : decode prog_12_method_87_code 10 = .ok (.invokevirtual 147, 3) := by decide +kernel
theorem d212_13 : decode prog_12_method_87_code 13 = .ok (.iadd, 1) := by decide +kernel
theorem d212_14 : decode prog_12_method_87_code 14 = .ok (.aload_n 0, 1) := by decide +kernel
theorem d212_15 : decode prog_12_method_87_code 15 = .ok (.iconst 2, 1) := by decide +kernel
theorem d212_16 : decode prog_12_method_87_code 16 = .ok (.iconst 3, 1) := by decide +kernel
theorem d212_17 : decode prog_12_method_87_code 17 = .ok (.invokevirtual 147, 3) := by decide +kernel
theorem d212_20 : decode prog_12_method_87_code 20 = .ok (.iadd, 1) := by decide +kernel
theorem d212_21 : decode prog_12_method_87_code 21 = .ok (.invokevirtual 207, 3) := by decide +kernel
theorem d212_24 : decode prog_12_method_87_code 24 = .ok (.i2l, 1) := by decide +kernel
theorem d212_25 : decode prog_12_method_87_code 25 = .ok (.lreturn, 1) := by decide +kernel
theorem d213_0 : decode prog_12_method_88_code 0 = .ok (.aload_n 0, 1) := by decide +kernel
theorem d213_1 : decode prog_12_method_88_code 1 = .ok (.bipush 10, 2) := by decide +kernel
theorem d213_3 : decode prog_12_method_88_code 3 = .ok (.aload_n 0, 1) := by decide +kernel
theorem d213_4 : decode prog_12_method_88_code 4 = .ok (.getfield 7, 3) := by decide +kernel
theorem d213_7 : decode prog_12_method_88_code 7 = .ok (.iconst 4, 1) := by decide +kernel
theorem d213_8 : decode prog_12_method_88_code 8 = .ok (.iaload, 1) := by decide +kernel
theorem d213_9 : decode prog_12_method_88_code 9 = .ok (.imul, 1) := by decide +kernel
theorem d213_10 : decode prog_12_method_88_code 10 = .ok (.iconst 2, 1) := by decide +kernel
theorem d213_11 : decode prog_12_method_88_code 11 = .ok (.aload_n 0, 1) := by decide +kernel
theorem d213_12 : decode prog_12_method_88_code 12 = .ok (.getfield 7, 3) := by decide +kernel
theorem d213_15 : decode prog_12_method_88_code 15 = .ok (.iconst 3, 1) := by decide +kernel
theorem d213_16 : decode prog_12_method_88_code 16 = .ok (.iaload, 1) := by decide +kernel
theorem d213_17 : decode prog_12_method_88_code 17 = .ok (.imul, 1) := by decide +kernel
theorem d213_18 : decode prog_12_method_88_code 18 = .ok (.isub, 1) := by decide +kernel
theorem d213_19 : decode prog_12_method_88_code 19 = .ok (.invokevirtual 207, 3) := by decide +kernel
theorem d213_22 : decode prog_12_method_88_code 22 = .ok (.i2l, 1) := by decide +kernel
theorem d213_23 : decode prog_12_method_88_code 23 = .ok (.lreturn, 1) := by decide +kernel
theorem d214_0 : decode prog_12_method_89_code 0 = .ok (.aload_n 0, 1) := by decide +kernel
theorem d214_1 : decode prog_12_method_89_code 1 = .ok (.aload_n 0, 1) := by decide +kernel
theorem d214_2 : decode prog_12_method_89_code 2 = .ok (.getfield 7, 3) := by decide +kernel
theorem d214_5 : decode prog_12_method_89_code 5 = .ok (.iconst 2, 1) := by decide +kernel
theorem d214_6 : decode prog_12_method_89_code 6 = .ok (.iaload, 1) := by decide +kernel
theorem d214_7 : decode prog_12_method_89_code 7 = .ok (.invokevirtual 207, 3) := by decide +kernel
theorem d214_10 : decode prog_12_method_89_code 10 = .ok (.ireturn, 1) := by decide +kernel
theorem d215_0 : decode prog_12_method_90_code 0 = .ok (.aload_n 0, 1) := by decide +kernel
theorem d215_1 : decode prog_12_method_90_code 1 = .ok (.aload_n 0, 1) := by decide +kernel
theorem d215_2 : decode prog_12_method_90_code 2 = .ok (.getfield 7, 3) := by decide +kernel
theorem d215_5 : decode prog_12_method_90_code 5 = .ok (.iconst 2, 1) := by decide +kernel
theorem d215_6 : decode prog_12_method_90_code 6 = .ok (.iaload, 1) := by decide +kernel
theorem d215_7 : decode prog_12_method_90_code 7 = .ok (.ifCond .le 7, 3) := by decide +kernel
theorem d215_10 : decode prog_12_method_90_code 10 = .ok (.iconst 1, 1) := by decide +kernel
theorem d215_11 : decode prog_12_method_90_code 11 = .ok (.goto 4, 3) := by decide +kernel
theorem d215_14 : decode prog_12_method_90_code 14 = .ok (.iconst 0, 1) := by decide +kernel
theorem d215_15 : decode prog_12_method_90_code 15 = .ok (.invokevirtual 210, 3) := by decide +kernel
theorem d215_18 : decode prog_12_method_90_code 18 = .ok (.ifCond .le 7, 3) := by decide +kernel
theorem d215_21 : decode prog_12_method_90_code 21 = .ok (.dconst 0, 1) := by decide +kernel
theorem d215_22 : decode prog_12_method_90_code 22 = .ok (.goto 18, 3) := by decide +kernel
theorem d215_25 : decode prog_12_method_90_code 25 = .ok (.aload_n 0, 1) := by decide +kernel
theorem d215_26 : decode prog_12_method_90_code 26 = .ok (.getfield 7, 3) := by decide +kernel
theorem d215_29 : decode prog_12_method_90_code 29 = .ok (.iconst 3, 1) := by decide +kernel
theorem d215_30 : decode prog_12_method_90_code 30 = .ok (.iaload, 1) := by decide +kernel
theorem d215_31 : decode prog_12_method_90_code 31 = .ok (.i2d, 1) := by decide +kernel
theorem d215_32 : decode prog_12_method_90_code 32 = .ok (.aload_n 0, 1) := by decide +kernel
theorem d215_33 : decode prog_12_method_90_code 33 = .ok (.getfield 7, 3) := by decide +kernel
theorem d215_36 : decode prog_12_method_90_code 36 = .ok (.iconst 2, 1) := by decide +kernel
theorem d215_37 : decode prog_12_method_90_code 37 = .ok (.iaload, 1) := by decide +kernel
theorem d215_38 : decode prog_12_method_90_code 38 = .ok (.i2d, 1) := by decide +kernel
theorem d215_39 : decode prog_12_method_90_code 39 = .ok (.ddiv, 1) := by decide +kernel
theorem d215_40 : decode prog_12_method_90_code 40 = .ok (.dreturn, 1) := by decide +kernel
theorem d216_0 : decode prog_12_method_91_code 0 = .ok (.aload_n 0, 1) := by decide +kernel
theorem d216_1 : decode prog_12_method_91_code 1 = .ok (.iconst 0, 1) := by decide +kernel
theorem d216_2 : decode prog_12_method_91_code 2 = .ok (.putfield 28, 3) := by decide +kernel
theorem d216_5 : decode prog_12_method_91_code 5 = .ok (.aload_n 0, 1) := by decide +kernel
theorem d216_6 : decode prog_12_method_91_code 6 = .ok (.iconst 0, 1) := by decide +kernel
theorem d216_7 : decode prog_12_method_91_code 7 = .ok (.invokevirtual 167, 3) := by decide +kernel
theorem d216_10 : decode prog_12_method_91_code 10 = .ok (.aload_n 0, 1) := by decide +kernel
theorem d216_11 : decode prog_12_method_91_code 11 = .ok (.iconst 1, 1) := by decide +kernel
theorem d216_12 : decode prog_12_method_91_code 12 = .ok (.invokevirtual 167, 3) := by decide +kernel
theorem d216_15 : decode prog_12_method_91_code 15 = .ok (.iadd, 1) := by decide +kernel
theorem d216_16 : decode prog_12_method_91_code 16 = .ok (.aload_n 0, 1) := by decide +kernel
theorem d216_17 : decode prog_12_method_91_code 17 = .ok (.iconst 2, 1) := by decide +kernel
theorem d216_18 : decode prog_12_method_91_code 18 = .ok (.invokevirtual 167, 3) := by decide +kernel
theorem d216_21 : decode prog_12_method_91_code 21 = .ok (.iadd, 1) := by decide +kernel
theorem d216_22 : decode prog_12_method_91_code 22 = .ok (.i2f, 1) := by decide +kernel
theorem d216_23 : decode prog_12_method_91_code 23 = .ok (.ldc 244, 2) := by decide +kernel
theorem d216_25 : decode prog_12_method_91_code 25 = .ok (.fdiv, 1) := by decide +kernel
theorem d216_26 : decode prog_12_method_91_code 26 = .ok (.freturn, 1) := by decide +kernel
theorem d217_0 : decode prog_12_method_93_code 0 = .ok (.aload_n 0, 1) := by decide +kernel
theorem d217_1 : decode prog_12_method_93_code 1 = .ok (.iconst 0, 1) := by decide +kernel
theorem d217_2 : decode prog_12_method_93_code 2 = .ok (.putfield 28, 3) := by decide +kernel
theorem d217_5 : decode prog_12_method_93_code 5 = .ok (.iconst 0, 1) := by decide +kernel
theorem d217_6 : decode prog_12_method_93_code 6 = .ok (.istore_n 2, 1) := by decide +kernel
theorem d217_7 : decode prog_12_method_93_code 7 = .ok (.iload_n 2, 1) := by decide +kernel
theorem d217_8 : decode prog_12_method_93_code 8 = .ok (.iconst 3, 1) := by decide +kernel
theorem d217_9 : decode prog_12_method_93_code 9 = .ok (.if_icmp .ge 57, 3) := by decide +kernel
theorem d217_12 : decode prog_12_method_93_code 12 = .ok (.iconst 0, 1) := by decide +kernel
theorem d217_13 : decode prog_12_method_93_code 13 = .ok (.istore_n 3, 1) := by decide +kernel
theorem d217_14 : decode prog_12_method_93_code 14 = .ok (.iconst 0, 1) := by decide +kernel
theorem d217_15 : decode prog_12_method_93_code 15 = .ok (.istore 4, 2) := by decide +kernel
theorem d217_17 : decode prog_12_method_93_code 17 = .ok (.iload 4, 2) := by decide +kernel
theorem d217_19 : decode prog_12_method_93_code 19 = .ok (.iconst 3, 1) := by decide +kernel
theorem d217_20 : decode prog_12_method_93_code 20 = .ok (.if_icmp .ge 33, 3) := by decide +kernel
theorem d217_23 : decode prog_12_method_93_code 23 = .ok (.iload_n 3, 1) := by decide +kernel
theorem d217_24 : decode prog_12_method_93_code 24 = .ok (.iload 4, 2) := by decide +kernel
theorem d217_26 : decode prog_12_method_93_code 26 = .ok (.iload_n 2, 1) := by decide +kernel
theorem d217_27 : decode prog_12_method_93_code 27 = .ok (.if_icmp .eq 17, 3) := by decide +kernel
theorem d217_30 : decode prog_12_method_93_code 30 = .ok (.aload_n 0, 1) := by decide +kernel
theorem d217_31 : decode prog_12_method_93_code 31 = .ok (.iload 4, 2) := by decide +kernel
theorem d217_33 : decode prog_12_method_93_code 33 = .ok (.iload_n 2, 1) := by decide +kernel
theorem d217_34 : decode prog_12_method_93_code 34 = .ok (.invokevirtual 245, 3) := by decide +kernel
theorem d217_37 : decode prog_12_method_93_code 37 = .ok (.ifCond .eq 7, 3) := by decide +kernel
theorem d217_40 : decode prog_12_method_93_code 40 = .ok (.iconst 1, 1) := by decide +kernel
theorem d217_41 : decode prog_12_method_93_code 41 = .ok (.goto 4, 3) := by decide +kernel
theorem d217_44 : decode prog_12_method_93_code 44 = .ok (.iconst 0, 1) := by decide +kernel
theorem d217_45 : decode prog_12_method_93_code 45 = .ok (.iadd, 1) := by decide +kernel
theorem d217_46 : decode prog_12_method_93_code 46 = .ok (.istore_n 3, 1) := by decide +kernel
theorem d217_47 : decode prog_12_method_93_code 47 = .ok (.iinc 4 1, 3) := by decide +kernel
theorem d217_50 : decode prog_12_method_93_code 50 = .ok (.goto (-33), 3) := by decide +kernel
theorem d217_53 : decode prog_12_method_93_code 53 = .ok (.iload_n 3, 1) := by decide +kernel
theorem d217_54 : decode prog_12_method_93_code 54 = .ok (.iload_n 1, 1) := by decide +kernel
theorem d217_55 : decode prog_12_method_93_code 55 = .ok (.if_icmp .ne 5, 3) := by decide +kernel
theorem d217_58 : decode prog_12_method_93_code 58 = .ok (.iload_n 2, 1) := by decide +kernel
theorem d217_59 : decode prog_12_method_93_code 59 = .ok (.ireturn, 1) := by decide +kernel
theorem d217_60 : decode prog_12_method_93_code 60 = .ok (.iinc 2 1, 3) := by decide +kernel
theorem d217_63 : decode prog_12_method_93_code 63 = .ok (.goto (-56), 3) := by decide +kernel
theorem d217_66 : decode prog_12_method_93_code 66 = .ok (.aload_n 0, 1) := by decide +kernel
theorem d217_67 : decode prog_12_method_93_code 67 = .ok (.iconst 1, 1) := by decide +kernel
theorem d217_68 : decode prog_12_method_93_code 68 = .ok (.invokevirtual 107, 3) := by decide +kernel
theorem d217_71 : decode prog_12_method_93_code 71 = .ok (.ireturn, 1) := by decide +kernel
theorem d218_0 : decode prog_12_method_92_code 0 = .ok (.aload_n 0, 1) := by decide +kernel
theorem d218_1 : decode prog_12_method_92_code 1 = .ok (.iload_n 1, 1) := by decide +kernel
theorem d218_2 : decode prog_12_method_92_code 2 = .ok (.iconst 3, 1) := by decide +kernel
theorem d218_3 : decode prog_12_method_92_code 3 = .ok (.invokevirtual 147, 3) := by decide +kernel
theorem d218_6 : decode prog_12_method_92_code 6 = .ok (.aload_n 0, 1) := by decide +kernel
theorem d218_7 : decode prog_12_method_92_code 7 = .ok (.iload_n 2, 1) := by decide +kernel
theorem d218_8 : decode prog_12_method_92_code 8 = .ok (.iconst 3, 1) := by decide +kernel
theorem d218_9 : decode prog_12_method_92_code 9 = .ok (.invokevirtual 147, 3) := by decide +kernel
theorem d218_12 : decode prog_12_method_92_code 12 = .ok (.if_icmp .eq 24, 3) := by decide +kernel
theorem d218_15 : decode prog_12_method_92_code 15 = .ok (.aload_n 0, 1) := by decide +kernel
theorem d218_16 : decode prog_12_method_92_code 16 = .ok (.iload_n 1, 1) := by decide +kernel
theorem d218_17 : decode prog_12_method_92_code 17 = .ok (.iconst 3, 1) := by decide +kernel
theorem d218_18 : decode prog_12_method_92_code 18 = .ok (.invokevirtual 147, 3) := by decide +kernel
theorem d218_21 : decode prog_12_method_92_code 21 = .ok (.aload_n 0, 1) := by decide +kernel
theorem d218_22 : decode prog_12_method_92_code 22 = .ok (.iload_n 2, 1) := by decide +kernel
theorem d218_23 : decode prog_12_method_92_code 23 = .ok (.iconst 3, 1) := by decide +kernel
theorem d218_24 : decode prog_12_method_92_code 24 = .ok (.invokevirtual 147, 3) := by decide +kernel
theorem d218_27 : decode prog_12_method_92_code 27 = .ok (.if_icmp .le 7, 3) := by decide +kernel
theorem d218_30 : decode prog_12_method_92_code 30 = .ok (.iconst 1, 1) := by decide +kernel
theorem d218_31 : decode prog_12_method_92_code 31 = .ok (.goto 4, 3) := by decide +kernel
theorem d218_34 : decode prog_12_method_92_code 34 = .ok (.iconst 0, 1) := by decide +kernel
theorem d218_35 : decode prog_12_method_92_code 35 = .ok (.ireturn, 1) := by decide +kernel
theorem d218_36 : decode prog_12_method_92_code 36 = .ok (.aload_n 0, 1) := by decide +kernel
theorem d218_37 : decode prog_12_method_92_code 37 = .ok (.iload_n 1, 1) := by decide +kernel
theorem d218_38 : decode prog_12_method_92_code 38 = .ok (.iconst 2, 1) := by decide +kernel
theorem d218_39 : decode prog_12_method_92_code 39 = .ok (.invokevirtual 147, 3) := by decide +kernel
theorem d218_42 : decode prog_12_method_92_code 42 = .ok (.aload_n 0, 1) := by decide +kernel
theorem d218_43 : decode prog_12_method_92_code 43 = .ok (.iload_n 2, 1) := by decide +kernel
theorem d218_44 : decode prog_12_method_92_code 44 = .ok (.iconst 2, 1) := by decide +kernel
theorem d218_45 : decode prog_12_method_92_code 45 = .ok (.invokevirtual 147, 3) := by decide +kernel
theorem d218_48 : decode prog_12_method_92_code 48 = .ok (.if_icmp .lt 23, 3) := by decide +kernel
theorem d218_51 : decode prog_12_method_92_code 51 = .ok (.aload_n 0, 1) := by decide +kernel
theorem d218_52 : decode prog_12_method_92_code 52 = .ok (.iload_n 1, 1) := by decide +kernel
theorem d218_53 : decode prog_12_method_92_code 53 = .ok (.iconst 2, 1) := by decide +kernel
theorem d218_54 : decode prog_12_method_92_code 54 = .ok (.invokevirtual 147, 3) := by decide +kernel
theorem d218_57 : decode prog_12_method_92_code 57 = .ok (.aload_n 0, 1) := by decide +kernel
theorem d218_58 : decode prog_12_method_92_code 58 = .ok (.iload_n 2, 1) := by decide +kernel
theorem d218_59 : decode prog_12_method_92_code 59 = .ok (.iconst 2, 1) := by decide +kernel
theorem d218_60 : decode prog_12_method_92_code 60 = .ok (.invokevirtual 147, 3) := by decide +kernel
theorem d218_63 : decode prog_12_method_92_code 63 = .ok (.if_icmp .ne 12, 3) := by decide +kernel
theorem d218_66 : decode prog_12_method_92_code 66 = .ok (.iload_n 1, 1) := by decide +kernel
theorem d218_67 : decode prog_12_method_92_code 67 = .ok (.iload_n 2, 1) := by decide +kernel
theorem d218_68 : decode prog_12_method_92_code 68 = .ok (.if_icmp .ge 7, 3) := by decide +kernel
theorem d218_71 : decode prog_12_method_92_code 71 = .ok (.iconst 1, 1) := by decide +kernel
theorem d218_72 : decode prog_12_method_92_code 72 = .ok (.goto 4, 3) := by decide +kernel
theorem d218_75 : decode prog_12_method_92_code 75 = .ok (.iconst 0, 1) := by decide +kernel
theorem d218_76 : decode prog_12_method_92_code 76 = .ok (.ireturn, 1) := by decide +kernel
theorem d219_0 : decode prog_12_method_94_code 0 = .ok (.aload_n 0, 1) := by decide +kernel
theorem d219_1 : decode prog_12_method_94_code 1 = .ok (.iconst 1, 1) := by decide +kernel
theorem d219_2 : decode prog_12_method_94_code 2 = .ok (.invokevirtual 207, 3) := by decide +kernel
theorem d219_5 : decode prog_12_method_94_code 5 = .ok (.iconst 1, 1) := by decide +kernel
theorem d219_6 : decode prog_12_method_94_code 6 = .ok (.if_icmp .ne 7, 3) := by decide +kernel
theorem d219_9 : decode prog_12_method_94_code 9 = .ok (.iconst 1, 1) := by decide +kernel
theorem d219_10 : decode prog_12_method_94_code 10 = .ok (.goto 4, 3) := by decide +kernel
theorem d219_13 : decode prog_12_method_94_code 13 = .ok (.iconst 0, 1) := by decide +kernel
theorem d219_14 : decode prog_12_method_94_code 14 = .ok (.ireturn, 1) := by decide +kernel
theorem d220_0 : decode prog_12_method_97_code 0 = .ok (.aload_n 0, 1) := by decide +kernel
theorem d220_1 : decode prog_12_method_97_code 1 = .ok (.iload_n 1, 1) := by decide +kernel
theorem d220_2 : decode prog_12_method_97_code 2 = .ok (.invokestatic 123, 3) := by decide +kernel
theorem d220_5 : decode prog_12_method_97_code 5 = .ok (.invokevirtual 210, 3) := by decide +kernel
theorem d220_8 : decode prog_12_method_97_code 8 = .ok (.ifCond .le 5, 3) := by decide +kernel
theorem d220_11 : decode prog_12_method_97_code 11 = .ok (.iconst 0, 1) := by decide +kernel
theorem d220_12 : decode prog_12_method_97_code 12 = .ok (.ireturn, 1) := by decide +kernel
theorem d220_13 : decode prog_12_method_97_code 13 = .ok (.aload_n 0, 1) := by decide +kernel
theorem d220_14 : decode prog_12_method_97_code 14 = .ok (.iconst 0, 1) := by decide +kernel
theorem d220_15 : decode prog_12_method_97_code 15 = .ok (.putfield 54, 3) := by decide +kernel
theorem d220_18 : decode prog_12_method_97_code 18 = .ok (.aload_n 0, 1) := by decide +kernel
theorem d220_19 : decode prog_12_method_97_code 19 = .ok (.iload_n 1, 1) := by decide +kernel
theorem d220_20 : decode prog_12_method_97_code 20 = .ok (.invokevirtual 251, 3) := by decide +kernel
theorem d220_23 : decode prog_12_method_97_code 23 = .ok (.aload_n 0, 1) := by decide +kernel
theorem d220_24 : decode prog_12_method_97_code 24 = .ok (.bipush 64, 2) := by decide +kernel
theorem d220_26 : decode prog_12_method_97_code 26 = .ok (.invokevirtual 248, 3) := by decide +kernel
theorem d220_29 : decode prog_12_method_97_code 29 = .ok (.aload_n 0, 1) := by decide +kernel
theorem d220_30 : decode prog_12_method_97_code 30 = .ok (.aload_n 0, 1) := by decide +kernel
theorem d220_31 : decode prog_12_method_97_code 31 = .ok (.iload_n 1, 1) := by decide +kernel
theorem d220_32 : decode prog_12_method_97_code 32 = .ok (.iconst 0, 1) := by decide +kernel
theorem d220_33 : decode prog_12_method_97_code 33 = .ok (.invokevirtual 147, 3) := by decide +kernel
theorem d220_36 : decode prog_12_method_97_code 36 = .ok (.invokevirtual 251, 3) := by decide +kernel
theorem d220_39 : decode prog_12_method_97_code 39 = .ok (.aload_n 0, 1) := by decide +kernel
theorem d220_40 : decode prog_12_method_97_code 40 = .ok (.bipush 44, 2) := by decide +kernel
theorem d220_42 : decode prog_12_method_97_code 42 = .ok (.invokevirtual 248, 3) := by decide +kernel
theorem d220_45 : decode prog_12_method_97_code 45 = .ok (.aload_n 0, 1) := by decide +kernel
theorem d220_46 : decode prog_12_method_97_code 46 = .ok (.aload_n 0, 1) := by decide +kernel
theorem d220_47 : decode prog_12_method_97_code 47 = .ok (.iload_n 1, 1) := by decide +kernel
theorem d220_48 : decode prog_12_method_97_code 48 = .ok (.iconst 1, 1) := by decide +kernel
theorem d220_49 : decode prog_12_method_97_code 49 = .ok (.invokevirtual 147, 3) := by decide +kernel
theorem d220_52 : decode prog_12_method_97_code 52 = .ok (.invokevirtual 251, 3) := by decide +kernel
theorem d220_55 : decode prog_12_method_97_code 55 = .ok (.aload_n 0, 1) := by decide +kernel
theorem d220_56 : decode prog_12_method_97_code 56 = .ok (.bipush 43, 2) := by decide +kernel
theorem d220_58 : decode prog_12_method_97_code 58 = .ok (.invokevirtual 248, 3) := by decide +kernel
theorem d220_61 : decode prog_12_method_97_code 61 = .ok (.aload_n 0, 1) := by decide +kernel
theorem d220_62 : decode prog_12_method_97_code 62 = .ok (.aload_n 0, 1) := by decide +kernel
theorem d220_63 : decode prog_12_method_97_code 63 = .ok (.iload_n 1, 1) := by decide +kernel
theorem d220_64 : decode prog_12_method_97_code 64 = .ok (.iconst 2, 1) := by decide +kernel
theorem d220_65 : decode prog_12_method_97_code 65 = .ok (.invokevirtual 147, 3) := by decide +kernel
theorem d220_68 : decode prog_12_method_97_code 68 = .ok (.invokevirtual 251, 3) := by decide +kernel
theorem d220_71 : decode prog_12_method_97_code 71 = .ok (.iconst 0, 1) := by decide +kernel
theorem d220_72 : decode prog_12_method_97_code 72 = .ok (.istore_n 2, 1) := by decide +kernel
theorem d220_73 : decode prog_12_method_97_code 73 = .ok (.iload_n 2, 1) := by decide +kernel
theorem d220_74 : decode prog_12_method_97_code 74 = .ok (.bipush 6, 2) := by decide +kernel
theorem d220_76 : decode prog_12_method_97_code 76 = .ok (.if_icmp .ge 44, 3) := by decide +kernel
theorem d220_79 : decode prog_12_method_97_code 79 = .ok (.aload_n 0, 1) := by decide +kernel
theorem d220_80 : decode prog_12_method_97_code 80 = .ok (.getfield 7, 3) := by decide +kernel
theorem d220_83 : decode prog_12_method_97_code 83 = .ok (.bipush 12, 2) := by decide +kernel
theorem d220_85 : decode prog_12_method_97_code 85 = .ok (.iload_n 2, 1) := by decide +kernel
theorem d220_86 : decode prog_12_method_97_code 86 = .ok (.iadd, 1) := by decide +kernel
theorem d220_87 : decode prog_12_method_97_code 87 = .ok (.iaload, 1) := by decide +kernel
theorem d220_88 : decode prog_12_method_97_code 88 = .ok (.iload_n 1, 1) := by decide +kernel
theorem d220_89 : decode prog_12_method_97_code 89 = .ok (.iconst 1, 1) := by decide +kernel
theorem d220_90 : decode prog_12_method_97_code 90 = .ok (.iadd, 1) := by decide +kernel
theorem d220_91 : decode prog_12_method_97_code 91 = .ok (.if_icmp .eq 6, 3) := by decide +kernel
theorem d220_94 : decode prog_12_method_97_code 94 = .ok (.goto 20, 3) := by decide +kernel
theorem d220_97 : decode prog_12_method_97_code 97 = .ok (.aload_n 0, 1) := by decide +kernel
theorem d220_98 : decode prog_12_method_97_code 98 = .ok (.bipush 32, 2) := by decide +kernel
theorem d220_100 : decode prog_12_method_97_code 100 = .ok (.invokevirtual 248, 3) := by decide +kernel
theorem d220_103 : decode prog_12_method_97_code 103 = .ok (.aload_n 0, 1) := by decide +kernel
theorem d220_104 : decode prog_12_method_97_code 104 = .ok (.bipush 116, 2) := by decide +kernel
theorem d220_106 : decode prog_12_method_97_code 106 = .ok (.invokevirtual 248, 3) := by decide +kernel
theorem d220_109 : decode prog_12_method_97_code 109 = .ok (.aload_n 0, 1) := by decide +kernel
theorem d220_110 : decode prog_12_method_97_code 110 = .ok (.iload_n 2, 1) := by decide +kernel
theorem d220_111 : decode prog_12_method_97_code 111 = .ok (.invokevirtual 251, 3) := by decide +kernel
theorem d220_114 : decode prog_12_method_97_code 114 = .ok (.iinc 2 1, 3) := by decide +kernel
theorem d220_117 : decode prog_12_method_97_code 117 = .ok (.goto (-44), 3) := by decide +kernel
theorem d220_120 : decode prog_12_method_97_code 120 = .ok (.iconst 0, 1) := by decide +kernel
theorem d220_121 : decode prog_12_method_97_code 121 = .ok (.istore_n 2, 1) := by decide +kernel
theorem d220_122 : decode prog_12_method_97_code 122 = .ok (.iload_n 2, 1) := by decide +kernel
theorem d220_123 : decode prog_12_method_97_code 123 = .ok (.iconst 4, 1) := by decide +kernel
theorem d220_124 : decode prog_12_method_97_code 124 = .ok (.if_icmp .ge 49, 3) := by decide +kernel
theorem d220_127 : decode prog_12_method_97_code 127 = .ok (.aload_n 0, 1) := by decide +kernel
theorem d220_128 : decode prog_12_method_97_code 128 = .ok (.iload_n 1, 1) := by decide +kernel
theorem d220_129 : decode prog_12_method_97_code 129 = .ok (.iconst 4, 1) := by decide +kernel
theorem d220_130 : decode prog_12_method_97_code 130 = .ok (.iload_n 2, 1) := by decide +kernel
theorem d220_131 : decode prog_12_method_97_code 131 = .ok (.iadd, 1) := by decide +kernel
theorem d220_132 : decode prog_12_method_97_code 132 = .ok (.invokevirtual 147, 3) := by decide +kernel
theorem d220_135 : decode prog_12_method_97_code 135 = .ok (.ifCond .ne 6, 3) := by decide +kernel
theorem d220_138 : decode prog_12_method_97_code 138 = .ok (.goto 29, 3) := by decide +kernel
theorem d220_141 : decode prog_12_method_97_code 141 = .ok (.aload_n 0, 1) := by decide +kernel
theorem d220_142 : decode prog_12_method_97_code 142 = .ok (.bipush 32, 2) := by decide +kernel
theorem d220_144 : decode prog_12_method_97_code 144 = .ok (.invokevirtual 248, 3) := by decide +kernel
theorem d220_147 : decode prog_12_method_97_code 147 = .ok (.aload_n 0, 1) := by decide +kernel
theorem d220_148 : decode prog_12_method_97_code 148 = .ok (.bipush 97, 2) := by decide +kernel
theorem d220_150 : decode prog_12_method_97_code 150 = .ok (.iload_n 2, 1) := by decide +kernel
theorem d220_151 : decode prog_12_method_97_code 151 = .ok (.iadd, 1) := by decide +kernel
theorem d220_152 : decode prog_12_method_97_code 152 = .ok (.invokevirtual 248, 3) := by decide +kernel
theorem d220_155 : decode prog_12_method_97_code 155 = .ok (.aload_n 0, 1) := by decide +kernel
theorem d220_156 : decode prog_12_method_97_code 156 = .ok (.aload_n 0, 1) := by decide +kernel
theorem d220_157 : decode prog_12_method_97_code 157 = .ok (.iload_n 1, 1) := by decide +kernel
theorem d220_158 : decode prog_12_method_97_code 158 = .ok (.iconst 4, 1) := by decide +kernel
theorem d220_159 : decode prog_12_method_97_code 159 = .ok (.iload_n 2, 1) := by decide +kernel
theorem d220_160 : decode prog_12_method_97_code 160 = .ok (.iadd, 1) := by decide +kernel
theorem d220_161 : decode prog_12_method_97_code 161 = .ok (.invokevirtual 147, 3) := by decide +kernel
theorem d220_164 : decode prog_12_method_97_code 164 = .ok (.invokevirtual 251, 3) := by decide +kernel
theorem d220_167 : decode prog_12_method_97_code 167 = .ok (.iinc 2 1, 3) := by decide +kernel
theorem d220_170 : decode prog_12_method_97_code 170 = .ok (.goto (-48), 3) := by decide +kernel
theorem d220_173 : decode prog_12_method_97_code 173 = .ok (.aload_n 0, 1) := by decide +kernel
theorem d220_174 : decode prog_12_method_97_code 174 = .ok (.getfield 54, 3) := by decide +kernel
theorem d220_177 : decode prog_12_method_97_code 177 = .ok (.ireturn, 1) := by decide +kernel
theorem d221_0 : decode prog_12_method_96_code 0 = .ok (.iconst 1, 1) := by decide +kernel
theorem d221_1 : decode prog_12_method_96_code 1 = .ok (.istore_n 2, 1) := by decide +kernel
theorem d221_2 : decode prog_12_method_96_code 2 = .ok (.iload_n 1, 1) := by decide +kernel
theorem d221_3 : decode prog_12_method_96_code 3 = .ok (.iload_n 2, 1) := by decide +kernel
theorem d221_4 : decode prog_12_method_96_code 4 = .ok (.idiv, 1) := by decide +kernel
theorem d221_5 : decode prog_12_method_96_code 5 = .ok (.bipush 9, 2) := by decide +kernel
theorem d221_7 : decode prog_12_method_96_code 7 = .ok (.if_icmp .le 11, 3) := by decide +kernel
theorem d221_10 : decode prog_12_method_96_code 10 = .ok (.iload_n 2, 1) := by decide +kernel
theorem d221_11 : decode prog_12_method_96_code 11 = .ok (.bipush 10, 2) := by decide +kernel
theorem d221_13 : decode prog_12_method_96_code 13 = .ok (.imul, 1) := by decide +kernel
theorem d221_14 : decode prog_12_method_96_code 14 = .ok (.istore_n 2, 1) := by decide +kernel
theorem d221_15 : decode prog_12_method_96_code 15 = .ok (.goto (-13), 3) := by decide +kernel
theorem d221_18 : decode prog_12_method_96_code 18 = .ok (.iload_n 2, 1) := by decide +kernel
theorem d221_19 : decode prog_12_method_96_code 19 = .ok (.ifCond .le 24, 3) := by decide +kernel
theorem d221_22 : decode prog_12_method_96_code 22 = .ok (.aload_n 0, 1) := by decide +kernel
theorem d221_23 : decode prog_12_method_96_code 23 = .ok (.bipush 48, 2) := by decide +kernel
theorem d221_25 : decode prog_12_method_96_code 25 = .ok (.iload_n 1, 1) := by decide +kernel
theorem d221_26 : decode prog_12_method_96_code 26 = .ok (.iload_n 2, 1) := by decide +kernel
theorem d221_27 : decode prog_12_method_96_code 27 = .ok (.idiv, 1) := by decide +kernel
theorem d221_28 : decode prog_12_method_96_code 28 = .ok (.bipush 10, 2) := by decide +kernel
theorem d221_30 : decode prog_12_method_96_code 30 = .ok (.irem, 1) := by decide +kernel
theorem d221_31 : decode prog_12_method_96_code 31 = .ok (.iadd, 1) := by decide +kernel
theorem d221_32 : decode prog_12_method_96_code 32 = .ok (.invokevirtual 248, 3) := by decide +kernel
theorem d221_35 : decode prog_12_method_96_code 35 = .ok (.iload_n 2, 1) := by decide +kernel
theorem d221_36 : decode prog_12_method_96_code 36 = .ok (.bipush 10, 2) := by decide +kernel
theorem d221_38 : decode prog_12_method_96_code 38 = .ok (.idiv, 1) := by decide +kernel
theorem d221_39 : decode prog_12_method_96_code 39 = .ok (.istore_n 2, 1) := by decide +kernel
theorem d221_40 : decode prog_12_method_96_code 40 = .ok (.goto (-22), 3) := by decide +kernel
theorem d221_43 : decode prog_12_method_96_code 43 = .ok (.return_, 1) := by decide +kernel
theorem d222_0 : decode prog_12_method_95_code 0 = .ok (.aload_n 0, 1) := by decide +kernel
theorem d222_1 : decode prog_12_method_95_code 1 = .ok (.getfield 51, 3) := by decide +kernel
theorem d222_4 : decode prog_12_method_95_code 4 = .ok (.aload_n 0, 1) := by decide +kernel
theorem d222_5 : decode prog_12_method_95_code 5 = .ok (.getfield 54, 3) := by decide +kernel
theorem d222_8 : decode prog_12_method_95_code 8 = .ok (.iload_n 1, 1) := by decide +kernel
theorem d222_9 : decode prog_12_method_95_code 9 = .ok (.iastore, 1) := by decide +kernel
theorem d222_10 : decode prog_12_method_95_code 10 = .ok (.aload_n 0, 1) := by decide +kernel
theorem d222_11 : decode prog_12_method_95_code 11 = .ok (.dup, 1) := by decide +kernel
theorem d222_12 : decode prog_12_method_95_code 12 = .ok (.getfield 54, 3) := by decide +kernel
theorem d222_15 : decode prog_12_method_95_code 15 = .ok (.iconst 1, 1) := by decide +kernel
theorem d222_16 : decode prog_12_method_95_code 16 = .ok (.iadd, 1) := by decide +kernel
theorem d222_17 : decode prog_12_method_95_code 17 = .ok (.putfield 54, 3) := by decide +kernel
theorem d222_20 : decode prog_12_method_95_code 20 = .ok (.return_, 1) := by decide +kernel
theorem d223_0 : decode prog_12_method_98_code 0 = .ok (.aload_n 0, 1) := by decide +kernel
theorem d223_1 : decode prog_12_method_98_code 1 = .ok (.iload_n 1, 1) := by decide +kernel
theorem d223_2 : decode prog_12_method_98_code 2 = .ok (.invokestatic 123, 3) := by decide +kernel
theorem d223_5 : decode prog_12_method_98_code 5 = .ok (.invokevirtual 210, 3) := by decide +kernel
theorem d223_8 : decode prog_12_method_98_code 8 = .ok (.ifCond .le 5, 3) := by decide +kernel
theorem d223_11 : decode prog_12_method_98_code 11 = .ok (.iconst 0, 1) := by decide +kernel
theorem d223_12 : decode prog_12_method_98_code 12 = .ok (.ireturn, 1) := by decide +kernel
theorem d223_13 : decode prog_12_method_98_code 13 = .ok (.aload_n 0, 1) := by decide +kernel
theorem d223_14 : decode prog_12_method_98_code 14 = .ok (.iload_n 1, 1) := by decide +kernel
theorem d223_15 : decode prog_12_method_98_code 15 = .ok (.invokevirtual 238, 3) := by decide +kernel
theorem d223_18 : decode prog_12_method_98_code 18 = .ok (.aload_n 0, 1) := by decide +kernel
theorem d223_19 : decode prog_12_method_98_code 19 = .ok (.iconst 0, 1) := by decide +kernel
theorem d223_20 : decode prog_12_method_98_code 20 = .ok (.putfield 54, 3) := by decide +kernel
theorem d223_23 : decode prog_12_method_98_code 23 = .ok (.aload_n 0, 1) := by decide +kernel
theorem d223_24 : decode prog_12_method_98_code 24 = .ok (.iload_n 1, 1) := by decide +kernel
theorem d223_25 : decode prog_12_method_98_code 25 = .ok (.iconst 2, 1) := by decide +kernel
theorem d223_26 : decode prog_12_method_98_code 26 = .ok (.invokevirtual 147, 3) := by decide +kernel
theorem d223_29 : decode prog_12_method_98_code 29 = .ok (.istore_n 2, 1) := by decide +kernel
theorem d223_30 : decode prog_12_method_98_code 30 = .ok (.aload_n 0, 1) := by decide +kernel
theorem d223_31 : decode prog_12_method_98_code 31 = .ok (.iload_n 1, 1) := by decide +kernel
theorem d223_32 : decode prog_12_method_98_code 32 = .ok (.iconst 0, 1) := by decide +kernel
theorem d223_33 : decode prog_12_method_98_code 33 = .ok (.invokevirtual 147, 3) := by decide +kernel
theorem d223_36 : decode prog_12_method_98_code 36 = .ok (.istore_n 3, 1) := by decide +kernel
theorem d223_37 : decode prog_12_method_98_code 37 = .ok (.aload_n 0, 1) := by decide +kernel
theorem d223_38 : decode prog_12_method_98_code 38 = .ok (.iload_n 1, 1) := by decide +kernel
theorem d223_39 : decode prog_12_method_98_code 39 = .ok (.iconst 1, 1) := by decide +kernel
theorem d223_40 : decode prog_12_method_98_code 40 = .ok (.invokevirtual 147, 3) := by decide +kernel
theorem d223_43 : decode prog_12_method_98_code 43 = .ok (.istore 4, 2) := by decide +kernel
theorem d223_45 : decode prog_12_method_98_code 45 = .ok (.iconst 0, 1) := by decide +kernel
theorem d223_46 : decode prog_12_method_98_code 46 = .ok (.istore 5, 2) := by decide +kernel
theorem d223_48 : decode prog_12_method_98_code 48 = .ok (.iload 5, 2) := by decide +kernel
theorem d223_50 : decode prog_12_method_98_code 50 = .ok (.aload_n 0, 1) := by decide +kernel
theorem d223_51 : decode prog_12_method_98_code 51 = .ok (.getfield 41, 3) := by decide +kernel
theorem d223_54 : decode prog_12_method_98_code 54 = .ok (.if_icmp .ge 103, 3) := by decide +kernel
theorem d223_57 : decode prog_12_method_98_code 57 = .ok (.aload_n 0, 1) := by decide +kernel
theorem d223_58 : decode prog_12_method_98_code 58 = .ok (.getfield 25, 3) := by decide +kernel
theorem d223_61 : decode prog_12_method_98_code 61 = .ok (.iload 5, 2) := by decide +kernel
theorem d223_63 : decode prog_12_method_98_code 63 = .ok (.iaload, 1) := by decide +kernel
theorem d223_64 : decode prog_12_method_98_code 64 = .ok (.istore 6, 2) := by decide +kernel
theorem d223_66 : decode prog_12_method_98_code 66 = .ok (.iload_n 2, 1) := by decide +kernel
theorem d223_67 : decode prog_12_method_98_code 67 = .ok (.iload_n 3, 1) := by decide +kernel
theorem d223_68 : decode prog_12_method_98_code 68 = .ok (.aload_n 0, 1) := by decide +kernel
theorem d223_69 : decode prog_12_method_98_code 69 = .ok (.iload 6, 2) := by decide +kernel
theorem d223_71 : decode prog_12_method_98_code 71 = .ok (.iconst 1, 1) := by decide +kernel
theorem d223_72 : decode prog_12_method_98_code 72 = .ok (.invokevirtual 85, 3) := by decide +kernel
theorem d223_75 : decode prog_12_method_98_code 75 = .ok (.invokestatic 176, 3) := by decide +kernel
theorem d223_78 : decode prog_12_method_98_code 78 = .ok (.iload 4, 2) := by decide +kernel
theorem d223_80 : decode prog_12_method_98_code 80 = .ok (.aload_n 0, 1) := by decide +kernel
theorem d223_81 : decode prog_12_method_98_code 81 = .ok (.iload 6, 2) := by decide +kernel
theorem d223_83 : decode prog_12_method_98_code 83 = .ok (.iconst 2, 1) := by decide +kernel
theorem d223_84 : decode prog_12_method_98_code 84 = .ok (.invokevirtual 85, 3) := by decide +kernel
theorem d223_87 : decode prog_12_method_98_code 87 = .ok (.invokestatic 176, 3) := by decide +kernel
theorem d223_90 : decode prog_12_method_98_code 90 = .ok (.iadd, 1) := by decide +kernel
theorem d223_91 : decode prog_12_method_98_code 91 = .ok (.aload_n 0, 1) := by decide +kernel
theorem d223_92 : decode prog_12_method_98_code 92 = .ok (.iload 6, 2) := by decide +kernel
theorem d223_94 : decode prog_12_method_98_code 94 = .ok (.iconst 5, 1) := by decide +kernel
theorem d223_95 : decode prog_12_method_98_code 95 = .ok (.invokevirtual 85, 3) := by decide +kernel
theorem d223_98 : decode prog_12_method_98_code 98 = .ok (.iadd, 1) := by decide +kernel
theorem d223_99 : decode prog_12_method_98_code 99 = .ok (.iadd, 1) := by decide +kernel
theorem d223_100 : decode prog_12_method_98_code 100 = .ok (.istore_n 2, 1) := by decide +kernel
theorem d223_101 : decode prog_12_method_98_code 101 = .ok (.aload_n 0, 1) := by decide +kernel
theorem d223_102 : decode prog_12_method_98_code 102 = .ok (.iload 6, 2) := by decide +kernel
theorem d223_104 : decode prog_12_method_98_code 104 = .ok (.iconst 1, 1) := by decide +kernel
theorem d223_105 : decode prog_12_method_98_code 105 = .ok (.invokevirtual 85, 3) := by decide +kernel
theorem d223_108 : decode prog_12_method_98_code 108 = .ok (.istore_n 3, 1) := by decide +kernel
theorem d223_109 : decode prog_12_method_98_code 109 = .ok (.aload_n 0, 1) := by decide +kernel
theorem d223_110 : decode prog_12_method_98_code 110 = .ok (.iload 6, 2) := by decide +kernel
theorem d223_112 : decode prog_12_method_98_code 112 = .ok (.iconst 2, 1) := by decide +kernel
theorem d223_113 : decode prog_12_method_98_code 113 = .ok (.invokevirtual 85, 3) := by decide +kernel
theorem d223_116 : decode prog_12_method_98_code 116 = .ok (.istore 4, 2) := by decide +kernel
theorem d223_118 : decode prog_12_method_98_code 118 = .ok (.iload 5, 2) := by decide +kernel
theorem d223_120 : decode prog_12_method_98_code 120 = .ok (.ifCond .le 9, 3) := by decide +kernel
theorem d223_123 : decode prog_12_method_98_code 123 = .ok (.aload_n 0, 1) := by decide +kernel
theorem d223_124 : decode prog_12_method_98_code 124 = .ok (.bipush 62, 2) := by decide +kernel
theorem d223_126 : decode prog_12_method_98_code 126 = .ok (.invokevirtual 248, 3) := by decide +kernel
theorem d223_129 : decode prog_12_method_98_code 129 = .ok (.aload_n 0, 1) := by decide +kernel
theorem d223_130 : decode prog_12_method_98_code 130 = .ok (.aload_n 0, 1) := by decide +kernel
theorem d223_131 : decode prog_12_method_98_code 131 = .ok (.iload 6, 2) := by decide +kernel
theorem d223_133 : decode prog_12_method_98_code 133 = .ok (.iconst 0, 1) := by decide +kernel
theorem d223_134 : decode prog_12_method_98_code 134 = .ok (.invokevirtual 85, 3) := by decide +kernel
theorem d223_137 : decode prog_12_method_98_code 137 = .ok (.invokevirtual 251, 3) := by decide +kernel
theorem d223_140 : decode prog_12_method_98_code 140 = .ok (.aload_n 0, 1) := by decide +kernel
theorem d223_141 : decode prog_12_method_98_code 141 = .ok (.bipush 58, 2) := by decide +kernel
theorem d223_143 : decode prog_12_method_98_code 143 = .ok (.invokevirtual 248, 3) := by decide +kernel
theorem d223_146 : decode prog_12_method_98_code 146 = .ok (.aload_n 0, 1) := by decide +kernel
theorem d223_147 : decode prog_12_method_98_code 147 = .ok (.iload_n 2, 1) := by decide +kernel
theorem d223_148 : decode prog_12_method_98_code 148 = .ok (.invokevirtual 251, 3) := by decide +kernel
theorem d223_151 : decode prog_12_method_98_code 151 = .ok (.iinc 5 1, 3) := by decide +kernel
theorem d223_154 : decode prog_12_method_98_code 154 = .ok (.goto (-106), 3) := by decide +kernel
theorem d223_157 : decode prog_12_method_98_code 157 = .ok (.aload_n 0, 1) := by decide +kernel
theorem d223_158 : decode prog_12_method_98_code 158 = .ok (.getfield 54, 3) := by decide +kernel
theorem d223_161 : decode prog_12_method_98_code 161 = .ok (.ireturn, 1) := by decide +kernel
theorem d224_0 : decode prog_12_method_99_code 0 = .ok (.aload_n 0, 1) := by decide +kernel
theorem d224_1 : decode prog_12_method_99_code 1 = .ok (.iload_n 1, 1) := by decide +kernel
theorem d224_2 : decode prog_12_method_99_code 2 = .ok (.iconst 0, 1) := by decide +kernel
theorem d224_3 : decode prog_12_method_99_code 3 = .ok (.aload_n 0, 1) := by decide +kernel
theorem d224_4 : decode prog_12_method_99_code 4 = .ok (.getfield 54, 3) := by decide +kernel
theorem d224_7 : decode prog_12_method_99_code 7 = .ok (.iconst 1, 1) := by decide +kernel
theorem d224_8 : decode prog_12_method_99_code 8 = .ok (.isub, 1) := by decide +kernel
theorem d224_9 : decode prog_12_method_99_code 9 = .ok (.invokestatic 89, 3) := by decide +kernel
theorem d224_12 : decode prog_12_method_99_code 12 = .ok (.invokevirtual 210, 3) := by decide +kernel
theorem d224_15 : decode prog_12_method_99_code 15 = .ok (.ifCond .le 8, 3) := by decide +kernel
theorem d224_18 : decode prog_12_method_99_code 18 = .ok (.bipush 32, 2) := by decide +kernel
theorem d224_20 : decode prog_12_method_99_code 20 = .ok (.goto 10, 3) := by decide +kernel
theorem d224_23 : decode prog_12_method_99_code 23 = .ok (.aload_n 0, 1) := by decide +kernel
theorem d224_24 : decode prog_12_method_99_code 24 = .ok (.getfield 51, 3) := by decide +kernel
theorem d224_27 : decode prog_12_method_99_code 27 = .ok (.iload_n 1, 1) := by decide +kernel
theorem d224_28 : decode prog_12_method_99_code 28 = .ok (.iaload, 1) := by decide +kernel
theorem d224_29 : decode prog_12_method_99_code 29 = .ok (.i2c, 1) := by decide +kernel
theorem d224_30 : decode prog_12_method_99_code 30 = .ok (.ireturn, 1) := by decide +kernel
theorem d225_0 : decode prog_12_method_100_code 0 = .ok (.aload_n 0, 1) := by decide +kernel
theorem d225_1 : decode prog_12_method_100_code 1 = .ok (.aload_n 0, 1) := by decide +kernel
theorem d225_2 : decode prog_12_method_100_code 2 = .ok (.getfield 66, 3) := by decide +kernel
theorem d225_5 : decode prog_12_method_100_code 5 = .ok (.bipush 60, 2) := by decide +kernel
theorem d225_7 : decode prog_12_method_100_code 7 = .ok (.if_icmp .ge 7, 3) := by decide +kernel
theorem d225_10 : decode prog_12_method_100_code 10 = .ok (.iconst 1, 1) := by decide +kernel
theorem d225_11 : decode prog_12_method_100_code 11 = .ok (.goto 4, 3) := by decide +kernel
theorem d225_14 : decode prog_12_method_100_code 14 = .ok (.iconst 0, 1) := by decide +kernel
theorem d225_15 : decode prog_12_method_100_code 15 = .ok (.invokevirtual 210, 3) := by decide +kernel
theorem d225_18 : decode prog_12_method_100_code 18 = .ok (.ifCond .le 5, 3) := by decide +kernel
theorem d225_21 : decode prog_12_method_100_code 21 = .ok (.iconst 0, 1) := by decide +kernel
theorem d225_22 : decode prog_12_method_100_code 22 = .ok (.ireturn, 1) := by decide +kernel
theorem d225_23 : decode prog_12_method_100_code 23 = .ok (.aload_n 0, 1) := by decide +kernel
theorem d225_24 : decode prog_12_method_100_code 24 = .ok (.getfield 57, 3) := by decide +kernel
theorem d225_27 : decode prog_12_method_100_code 27 = .ok (.aload_n 0, 1) := by decide +kernel
theorem d225_28 : decode prog_12_method_100_code 28 = .ok (.getfield 66, 3) := by decide +kernel
theorem d225_31 : decode prog_12_method_100_code 31 = .ok (.iload_n 1, 1) := by decide +kernel
theorem d225_32 : decode prog_12_method_100_code 32 = .ok (.iastore, 1) := by decide +kernel
theorem d225_33 : decode prog_12_method_100_code 33 = .ok (.aload_n 0, 1) := by decide +kernel
theorem d225_34 : decode prog_12_method_100_code 34 = .ok (.dup, 1) := by decide +kernel
theorem d225_35 : decode prog_12_method_100_code 35 = .ok (.getfield 66, 3) := by decide +kernel
theorem d225_38 : decode prog_12_method_100_code 38 = .ok (.iconst 1, 1) := by decide +kernel
theorem d225_39 : decode prog_12_method_100_code 39 = .ok (.iadd, 1) := by decide +kernel
theorem d225_40 : decode prog_12_method_100_code 40 = .ok (.putfield 66, 3) := by decide +kernel
theorem d225_43 : decode prog_12_method_100_code 43 = .ok (.aload_n 0, 1) := by decide +kernel
theorem d225_44 : decode prog_12_method_100_code 44 = .ok (.getfield 66, 3) := by decide +kernel
theorem d225_47 : decode prog_12_method_100_code 47 = .ok (.ireturn, 1) := by decide +kernel
theorem d226_0 : decode prog_12_method_114_code 0 = .ok (.aload_n 0, 1) := by decide +kernel
theorem d226_1 : decode prog_12_method_114_code 1 = .ok (.invokevirtual 100, 3) := by decide +kernel
theorem d226_4 : decode prog_12_method_114_code 4 = .ok (.aload_n 0, 1) := by decide +kernel
theorem d226_5 : decode prog_12_method_114_code 5 = .ok (.invokevirtual 289, 3) := by decide +kernel
theorem d226_8 : decode prog_12_method_114_code 8 = .ok (.aload_n 0, 1) := by decide +kernel
theorem d226_9 : decode prog_12_method_114_code 9 = .ok (.getfield 78, 3) := by decide +kernel
theorem d226_12 : decode prog_12_method_114_code 12 = .ok (.ifCond .eq 17, 3) := by decide +kernel
theorem d226_15 : decode prog_12_method_114_code 15 = .ok (.aload_n 0, 1) := by decide +kernel
theorem d226_16 : decode prog_12_method_114_code 16 = .ok (.aload_n 0, 1) := by decide +kernel
theorem d226_17 : decode prog_12_method_114_code 17 = .ok (.getfield 72, 3) := by decide +kernel
theorem d226_20 : decode prog_12_method_114_code 20 = .ok (.putfield 35, 3) := by decide +kernel
theorem d226_23 : decode prog_12_method_114_code 23 = .ok (.aload_n 0, 1) := by decide +kernel
theorem d226_24 : decode prog_12_method_114_code 24 = .ok (.iconst 1, 1) := by decide +kernel
theorem d226_25 : decode prog_12_method_114_code 25 = .ok (.invokevirtual 107, 3) := by decide +kernel
theorem d226_28 : decode prog_12_method_114_code 28 = .ok (.ireturn, 1) := by decide +kernel
theorem d226_29 : decode prog_12_method_114_code 29 = .ok (.iconst 0, 1) := by decide +kernel
theorem d226_30 : decode prog_12_method_114_code 30 = .ok (.istore_n 1, 1) := by decide +kernel
theorem d226_31 : decode prog_12_method_114_code 31 = .ok (.iload_n 1, 1) := by decide +kernel
theorem d226_32 : decode prog_12_method_114_code 32 = .ok (.aload_n 0, 1) := by decide +kernel
theorem d226_33 : decode prog_12_method_114_code 33 = .ok (.getfield 75, 3) := by decide +kernel
theorem d226_36 : decode prog_12_method_114_code 36 = .ok (.if_icmp .ge 44, 3) := by decide +kernel
theorem d226_39 : decode prog_12_method_114_code 39 = .ok (.aload_n 0, 1) := by decide +kernel
theorem d226_40 : decode prog_12_method_114_code 40 = .ok (.iload_n 1, 1) := by decide +kernel
theorem d226_41 : decode prog_12_method_114_code 41 = .ok (.invokevirtual 292, 3) := by decide +kernel
theorem d226_44 : decode prog_12_method_114_code 44 = .ok (.ifCond .ne 6, 3) := by decide +kernel
theorem d226_47 : decode prog_12_method_114_code 47 = .ok (.goto 27, 3) := by decide +kernel
theorem d226_50 : decode prog_12_method_114_code 50 = .ok (.aload_n 0, 1) := by decide +kernel
theorem d226_51 : decode prog_12_method_114_code 51 = .ok (.getfield 13, 3) := by decide +kernel
theorem d226_54 : decode prog_12_method_114_code 54 = .ok (.iconst 0, 1) := by decide +kernel
theorem d226_55 : decode prog_12_method_114_code 55 = .ok (.aload_n 0, 1) := by decide +kernel
theorem d226_56 : decode prog_12_method_114_code 56 = .ok (.getfield 7, 3) := by decide +kernel
theorem d226_59 : decode prog_12_method_114_code 59 = .ok (.iconst 0, 1) := by decide +kernel
theorem d226_60 : decode prog_12_method_114_code 60 = .ok (.invokestatic 81, 3) := by decide +kernel
theorem d226_63 : decode prog_12_method_114_code 63 = .ok (.aload_n 0, 1) := by decide +kernel
theorem d226_64 : decode prog_12_method_114_code 64 = .ok (.iload_n 1, 1) := by decide +kernel
theorem d226_65 : decode prog_12_method_114_code 65 = .ok (.putfield 38, 3) := by decide +kernel
theorem d226_68 : decode prog_12_method_114_code 68 = .ok (.aload_n 0, 1) := by decide +kernel
theorem d226_69 : decode prog_12_method_114_code 69 = .ok (.iconst 2, 1) := by decide +kernel
theorem d226_70 : decode prog_12_method_114_code 70 = .ok (.invokevirtual 107, 3) := by decide +kernel
theorem d226_73 : decode prog_12_method_114_code 73 = .ok (.ireturn, 1) := by decide +kernel
theorem d226_74 : decode prog_12_method_114_code 74 = .ok (.iinc 1 1, 3) := by decide +kernel
theorem d226_77 : decode prog_12_method_114_code 77 = .ok (.goto (-46), 3) := by decide +kernel
theorem d226_80 : decode prog_12_method_114_code 80 = .ok (.aload_n 0, 1) := by decide +kernel
theorem d226_81 : decode prog_12_method_114_code 81 = .ok (.aload_n 0, 1) := by decide +kernel
theorem d226_82 : decode prog_12_method_114_code 82 = .ok (.getfield 75, 3) := by decide +kernel
theorem d226_85 : decode prog_12_method_114_code 85 = .ok (.invokevirtual 114, 3) := by decide +kernel
theorem d226_88 : decode prog_12_method_114_code 88 = .ok (.ireturn, 1) := by decide +kernel
theorem d227_0 : decode prog_12_method_112_code 0 = .ok (.aload_n 0, 1) := by decide +kernel
theorem d227_1 : decode prog_12_method_112_code 1 = .ok (.aload_n 0, 1) := by decide +kernel
theorem d227_2 : decode prog_12_method_112_code 2 = .ok (.getfield 66, 3) := by decide +kernel
theorem d227_5 : decode prog_12_method_112_code 5 = .ok (.putfield 69, 3) := by decide +kernel
theorem d227_8 : decode prog_12_method_112_code 8 = .ok (.aload_n 0, 1) := by decide +kernel
theorem d227_9 : decode prog_12_method_112_code 9 = .ok (.iconst 0, 1) := by decide +kernel
theorem d227_10 : decode prog_12_method_112_code 10 = .ok (.putfield 66, 3) := by decide +kernel
theorem d227_13 : decode prog_12_method_112_code 13 = .ok (.aload_n 0, 1) := by decide +kernel
theorem d227_14 : decode prog_12_method_112_code 14 = .ok (.iconst 0, 1) := by decide +kernel
theorem d227_15 : decode prog_12_method_112_code 15 = .ok (.putfield 72, 3) := by decide +kernel
theorem d227_18 : decode prog_12_method_112_code 18 = .ok (.aload_n 0, 1) := by decide +kernel
theorem d227_19 : decode prog_12_method_112_code 19 = .ok (.iconst 0, 1) := by decide +kernel
theorem d227_20 : decode prog_12_method_112_code 20 = .ok (.putfield 75, 3) := by decide +kernel
theorem d227_23 : decode prog_12_method_112_code 23 = .ok (.aload_n 0, 1) := by decide +kernel
theorem d227_24 : decode prog_12_method_112_code 24 = .ok (.iconst 0, 1) := by decide +kernel
theorem d227_25 : decode prog_12_method_112_code 25 = .ok (.putfield 78, 3) := by decide +kernel
theorem d227_28 : decode prog_12_method_112_code 28 = .ok (.aload_n 0, 1) := by decide +kernel
theorem d227_29 : decode prog_12_method_112_code 29 = .ok (.invokevirtual 286, 3) := by decide +kernel
theorem d227_32 : decode prog_12_method_112_code 32 = .ok (.aload_n 0, 1) := by decide +kernel
theorem d227_33 : decode prog_12_method_112_code 33 = .ok (.invokevirtual 254, 3) := by decide +kernel
theorem d227_36 : decode prog_12_method_112_code 36 = .ok (.bipush 59, 2) := by decide +kernel
theorem d227_38 : decode prog_12_method_112_code 38 = .ok (.if_icmp .ne 20, 3) := by decide +kernel
theorem d227_41 : decode prog_12_method_112_code 41 = .ok (.aload_n 0, 1) := by decide +kernel
theorem d227_42 : decode prog_12_method_112_code 42 = .ok (.dup, 1) := by decide +kernel
theorem d227_43 : decode prog_12_method_112_code 43 = .ok (.getfield 72, 3) := by decide +kernel
theorem d227_46 : decode prog_12_method_112_code 46 = .ok (.iconst 1, 1) := by decide +kernel
theorem d227_47 : decode prog_12_method_112_code 47 = .ok (.iadd, 1) := by decide +kernel
theorem d227_48 : decode prog_12_method_112_code 48 = .ok (.putfield 72, 3) := by decide +kernel
theorem d227_51 : decode prog_12_method_112_code 51 = .ok (.aload_n 0, 1) := by decide +kernel
theorem d227_52 : decode prog_12_method_112_code 52 = .ok (.invokevirtual 286, 3) := by decide +kernel
theorem d227_55 : decode prog_12_method_112_code 55 = .ok (.goto (-23), 3) := by decide +kernel
theorem d227_58 : decode prog_12_method_112_code 58 = .ok (.aload_n 0, 1) := by decide +kernel
theorem d227_59 : decode prog_12_method_112_code 59 = .ok (.dup, 1) := by decide +kernel
theorem d227_60 : decode prog_12_method_112_code 60 = .ok (.getfield 78, 3) := by decide +kernel
theorem d227_63 : decode prog_12_method_112_code 63 = .ok (.aload_n 0, 1) := by decide +kernel
theorem d227_64 : decode prog_12_method_112_code 64 = .ok (.getfield 72, 3) := by decide +kernel
theorem d227_67 : decode prog_12_method_112_code 67 = .ok (.aload_n 0, 1) := by decide +kernel
theorem d227_68 : decode prog_12_method_112_code 68 = .ok (.getfield 69, 3) := by decide +kernel
theorem d227_71 : decode prog_12_method_112_code 71 = .ok (.if_icmp .ge 7, 3) := by decide +kernel
theorem d227_74 : decode prog_12_method_112_code 74 = .ok (.iconst 1, 1) := by decide +kernel
theorem d227_75 : decode prog_12_method_112_code 75 = .ok (.goto 4, 3) := by decide +kernel
theorem d227_78 : decode prog_12_method_112_code 78 = .ok (.iconst 0, 1) := by decide +kernel
theorem d227_79 : decode prog_12_method_112_code 79 = .ok (.ior, 1) := by decide +kernel
theorem d227_80 : decode prog_12_method_112_code 80 = .ok (.putfield 78, 3) := by decide +kernel
theorem d227_83 : decode prog_12_method_112_code 83 = .ok (.return_, 1) := by decide +kernel
theorem d228_0 : decode prog_12_method_111_code 0 = .ok (.aload_n 0, 1) := by decide +kernel
theorem d228_1 : decode prog_12_method_111_code 1 = .ok (.invokevirtual 277, 3) := by decide +kernel
theorem d228_4 : decode prog_12_method_111_code 4 = .ok (.istore_n 1, 1) := by decide +kernel
theorem d228_5 : decode prog_12_method_111_code 5 = .ok (.aload_n 0, 1) := by decide +kernel
theorem d228_6 : decode prog_12_method_111_code 6 = .ok (.bipush 32, 2) := by decide +kernel
theorem d228_8 : decode prog_12_method_111_code 8 = .ok (.invokevirtual 271, 3) := by decide +kernel
theorem d228_11 : decode prog_12_method_111_code 11 = .ok (.iload_n 1, 1) := by decide +kernel
theorem d228_12 : decode prog_12_method_111_code 12 = .ok (.ifCond .ne 10, 3) := by decide +kernel
theorem d228_15 : decode prog_12_method_111_code 15 = .ok (.aload_n 0, 1) := by decide +kernel
theorem d228_16 : decode prog_12_method_111_code 16 = .ok (.invokevirtual 280, 3) := by decide +kernel
theorem d228_19 : decode prog_12_method_111_code 19 = .ok (.goto 8, 3) := by decide +kernel
theorem d228_22 : decode prog_12_method_111_code 22 = .ok (.aload_n 0, 1) := by decide +kernel
theorem d228_23 : decode prog_12_method_111_code 23 = .ok (.iload_n 1, 1) := by decide +kernel
theorem d228_24 : decode prog_12_method_111_code 24 = .ok (.invokevirtual 283, 3) := by decide +kernel
theorem d228_27 : decode prog_12_method_111_code 27 = .ok (.aload_n 0, 1) := by decide +kernel
theorem d228_28 : decode prog_12_method_111_code 28 = .ok (.getfield 78, 3) := by decide +kernel
theorem d228_31 : decode prog_12_method_111_code 31 = .ok (.ifCond .eq 4, 3) := by decide +kernel
theorem d228_34 : decode prog_12_method_111_code 34 = .ok (.return_, 1) := by decide +kernel
theorem d228_35 : decode prog_12_method_111_code 35 = .ok (.aload_n 0, 1) := by decide +kernel
theorem d228_36 : decode prog_12_method_111_code 36 = .ok (.getfield 60, 3) := by decide +kernel
theorem d228_39 : decode prog_12_method_111_code 39 = .ok (.aload_n 0, 1) := by decide +kernel
theorem d228_40 : decode prog_12_method_111_code 40 = .ok (.getfield 75, 3) := by decide +kernel
theorem d228_43 : decode prog_12_method_111_code 43 = .ok (.iload_n 1, 1) := by decide +kernel
theorem d228_44 : decode prog_12_method_111_code 44 = .ok (.iastore, 1) := by decide +kernel
theorem d228_45 : decode prog_12_method_111_code 45 = .ok (.aload_n 0, 1) := by decide +kernel
theorem d228_46 : decode prog_12_method_111_code 46 = .ok (.dup, 1) := by decide +kernel
theorem d228_47 : decode prog_12_method_111_code 47 = .ok (.getfield 75, 3) := by decide +kernel
theorem d228_50 : decode prog_12_method_111_code 50 = .ok (.iconst 1, 1) := by decide +kernel
theorem d228_51 : decode prog_12_method_111_code 51 = .ok (.iadd, 1) := by decide +kernel
theorem d228_52 : decode prog_12_method_111_code 52 = .ok (.putfield 75, 3) := by decide +kernel
theorem d228_55 : decode prog_12_method_111_code 55 = .ok (.return_, 1) := by decide +kernel
theorem d229_0 : decode prog_12_method_107_code 0 = .ok (.iconst 0, 1) := by decide +kernel
theorem d229_1 : decode prog_12_method_107_code 1 = .ok (.istore_n 1, 1) := by decide +kernel
theorem d229_2 : decode prog_12_method_107_code 2 = .ok (.iconst 0, 1) := by decide +kernel
theorem d229_3 : decode prog_12_method_107_code 3 = .ok (.istore_n 2, 1) := by decide +kernel
theorem d229_4 : decode prog_12_method_107_code 4 = .ok (.iload_n 2, 1) := by decide +kernel
theorem d229_5 : decode prog_12_method_107_code 5 = .ok (.bipush 11, 2) := by decide +kernel
theorem d229_7 : decode prog_12_method_107_code 7 = .ok (.if_icmp .ge 88, 3) := by decide +kernel
theorem d229_10 : decode prog_12_method_107_code 10 = .ok (.iconst 0, 1) := by decide +kernel
theorem d229_11 : decode prog_12_method_107_code 11 = .ok (.istore_n 3, 1) := by decide +kernel
theorem d229_12 : decode prog_12_method_107_code 12 = .ok (.iload_n 2, 1) := by decide +kernel
theorem d229_13 : decode prog_12_method_107_code 13 = .ok (.iload_n 3, 1) := by decide +kernel
theorem d229_14 : decode prog_12_method_107_code 14 = .ok (.invokestatic 262, 3) := by decide +kernel
theorem d229_17 : decode prog_12_method_107_code 17 = .ok (.ifCond .le 41, 3) := by decide +kernel
theorem d229_20 : decode prog_12_method_107_code 20 = .ok (.aload_n 0, 1) := by decide +kernel
theorem d229_21 : decode prog_12_method_107_code 21 = .ok (.getfield 72, 3) := by decide +kernel
theorem d229_24 : decode prog_12_method_107_code 24 = .ok (.iload_n 3, 1) := by decide +kernel
theorem d229_25 : decode prog_12_method_107_code 25 = .ok (.iadd, 1) := by decide +kernel
theorem d229_26 : decode prog_12_method_107_code 26 = .ok (.aload_n 0, 1) := by decide +kernel
theorem d229_27 : decode prog_12_method_107_code 27 = .ok (.getfield 69, 3) := by decide +kernel
theorem d229_30 : decode prog_12_method_107_code 30 = .ok (.if_icmp .ge 28, 3) := by decide +kernel
theorem d229_33 : decode prog_12_method_107_code 33 = .ok (.aload_n 0, 1) := by decide +kernel
theorem d229_34 : decode prog_12_method_107_code 34 = .ok (.getfield 57, 3) := by decide +kernel
theorem d229_37 : decode prog_12_method_107_code 37 = .ok (.aload_n 0, 1) := by decide +kernel
theorem d229_38 : decode prog_12_method_107_code 38 = .ok (.getfield 72, 3) := by decide +kernel
theorem d229_41 : decode prog_12_method_107_code 41 = .ok (.iload_n 3, 1) := by decide +kernel
theorem d229_42 : decode prog_12_method_107_code 42 = .ok (.iadd, 1) := by decide +kernel
theorem d229_43 : decode prog_12_method_107_code 43 = .ok (.iaload, 1) := by decide +kernel
theorem d229_44 : decode prog_12_method_107_code 44 = .ok (.iload_n 2, 1) := by decide +kernel
theorem d229_45 : decode prog_12_method_107_code 45 = .ok (.iload_n 3, 1) := by decide +kernel
theorem d229_46 : decode prog_12_method_107_code 46 = .ok (.invokestatic 262, 3) := by decide +kernel
theorem d229_49 : decode prog_12_method_107_code 49 = .ok (.if_icmp .ne 9, 3) := by decide +kernel
theorem d229_52 : decode prog_12_method_107_code 52 = .ok (.iinc 3 1, 3) := by decide +kernel
theorem d229_55 : decode prog_12_method_107_code 55 = .ok (.goto (-43), 3) := by decide +kernel
theorem d229_58 : decode prog_12_method_107_code 58 = .ok (.iload_n 2, 1) := by decide +kernel
theorem d229_59 : decode prog_12_method_107_code 59 = .ok (.iload_n 3, 1) := by decide +kernel
theorem d229_60 : decode prog_12_method_107_code 60 = .ok (.invokestatic 262, 3) := by decide +kernel
theorem d229_63 : decode prog_12_method_107_code 63 = .ok (.ifCond .ne 15, 3) := by decide +kernel
theorem d229_66 : decode prog_12_method_107_code 66 = .ok (.aload_n 0, 1) := by decide +kernel
theorem d229_67 : decode prog_12_method_107_code 67 = .ok (.dup, 1) := by decide +kernel
theorem d229_68 : decode prog_12_method_107_code 68 = .ok (.getfield 72, 3) := by decide +kernel
theorem d229_71 : decode prog_12_method_107_code 71 = .ok (.iload_n 3, 1) := by decide +kernel
theorem d229_72 : decode prog_12_method_107_code 72 = .ok (.iadd, 1) := by decide +kernel
theorem d229_73 : decode prog_12_method_107_code 73 = .ok (.putfield 72, 3) := by decide +kernel
theorem d229_76 : decode prog_12_method_107_code 76 = .ok (.iload_n 2, 1) := by decide +kernel
theorem d229_77 : decode prog_12_method_107_code 77 = .ok (.ireturn, 1) := by decide +kernel
theorem d229_78 : decode prog_12_method_107_code 78 = .ok (.iload_n 3, 1) := by decide +kernel
theorem d229_79 : decode prog_12_method_107_code 79 = .ok (.iload_n 1, 1) := by decide +kernel
theorem d229_80 : decode prog_12_method_107_code 80 = .ok (.if_icmp .le 7, 3) := by decide +kernel
theorem d229_83 : decode prog_12_method_107_code 83 = .ok (.iload_n 3, 1) := by decide +kernel
theorem d229_84 : decode prog_12_method_107_code 84 = .ok (.goto 4, 3) := by decide +kernel
theorem d229_87 : decode prog_12_method_107_code 87 = .ok (.iload_n 1, 1) := by decide +kernel
theorem d229_88 : decode prog_12_method_107_code 88 = .ok (.istore_n 1, 1) := by decide +kernel
theorem d229_89 : decode prog_12_method_107_code 89 = .ok (.iinc 2 1, 3) := by decide +kernel
theorem d229_92 : decode prog_12_method_107_code 92 = .ok (.goto (-88), 3) := by decide +kernel
theorem d229_95 : decode prog_12_method_107_code 95 = .ok (.aload_n 0, 1) := by decide +kernel
theorem d229_96 : decode prog_12_method_107_code 96 = .ok (.dup, 1) := by decide +kernel
theorem d229_97 : decode prog_12_method_107_code 97 = .ok (.getfield 72, 3) := by decide +kernel
theorem d229_100 : decode prog_12_method_107_code 100 = .ok (.iload_n 1, 1) := by decide +kernel
theorem d229_101 : decode prog_12_method_107_code 101 = .ok (.iadd, 1) := by decide +kernel
theorem d229_102 : decode prog_12_method_107_code 102 = .ok (.putfield 72, 3) := by decide +kernel
theorem d229_105 : decode prog_12_method_107_code 105 = .ok (.aload_n 0, 1) := by decide +kernel
theorem d229_106 : decode prog_12_method_107_code 106 = .ok (.iconst 1, 1) := by decide +kernel
theorem d229_107 : decode prog_12_method_107_code 107 = .ok (.putfield 78, 3) := by decide +kernel
theorem d229_110 : decode prog_12_method_107_code 110 = .ok (.iconst 0, 1) := by decide +kernel
theorem d229_111 : decode prog_12_method_107_code 111 = .ok (.ireturn, 1) := by decide +kernel
theorem d230_0 : decode prog_12_method_106_code 0 = .ok (.iload_n 0, 1) := by decide +kernel
theorem d230_1 : decode prog_12_method_106_code 1 = .ok (.tableswitch 210 0 9 #[55, 69, 86, 101, 116, 132, 147, 164, 181, 195], 55) := by decide +kernel
theorem d230_56 : decode prog_12_method_106_code 56 = .ok (.iload_n 1, 1) := by decide +kernel
theorem d230_57 : decode prog_12_method_106_code 57 = .ok (.bipush 106, 2) := by decide +kernel
theorem d230_59 : decode prog_12_method_106_code 59 = .ok (.bipush 111, 2) := by decide +kernel
theorem d230_61 : decode prog_12_method_106_code 61 = .ok (.bipush 98, 2) := by decide +kernel
theorem d230_63 : decode prog_12_method_106_code 63 = .ok (.iconst 0, 1) := by decide +kernel
theorem d230_64 : decode prog_12_method_106_code 64 = .ok (.iconst 0, 1) := by decide +kernel
theorem d230_65 : decode prog_12_method_106_code 65 = .ok (.iconst 0, 1) := by decide +kernel
theorem d230_66 : decode prog_12_method_106_code 66 = .ok (.invokestatic 258, 3) := by decide +kernel
theorem d230_69 : decode prog_12_method_106_code 69 = .ok (.ireturn, 1) := by decide +kernel
theorem d230_70 : decode prog_12_method_106_code 70 = .ok (.iload_n 1, 1) := by decide +kernel
theorem d230_71 : decode prog_12_method_106_code 71 = .ok (.bipush 99, 2) := by decide +kernel
theorem d230_73 : decode prog_12_method_106_code 73 = .ok (.bipush 97, 2) := by decide +kernel
theorem d230_75 : decode prog_12_method_106_code 75 = .ok (.bipush 110, 2) := by decide +kernel
theorem d230_77 : decode prog_12_method_106_code 77 = .ok (.bipush 99, 2) := by decide +kernel
theorem d230_79 : decode prog_12_method_106_code 79 = .ok (.bipush 101, 2) := by decide +kernel
theorem d230_81 : decode prog_12_method_106_code 81 = .ok (.bipush 108, 2) := by decide +kernel
theorem d230_83 : decode prog_12_method_106_code 83 = .ok (.invokestatic 258, 3) := by decide +kernel
theorem d230_86 : decode prog_12_method_106_code 86 = .ok (.ireturn, 1) := by decide +kernel
theorem d230_87 : decode prog_12_method_106_code 87 = .ok (.iload_n 1, 1) := by decide +kernel
theorem d230_88 : decode prog_12_method_106_code 88 = .ok (.bipush 103, 2) := by decide +kernel
theorem d230_90 : decode prog_12_method_106_code 90 = .ok (.bipush 105, 2) := by decide +kernel
theorem d230_92 : decode prog_12_method_106_code 92 = .ok (.bipush 118, 2) := by decide +kernel
theorem d230_94 : decode prog_12_method_106_code 94 = .ok (.bipush 101, 2) := by decide +kernel
theorem d230_96 : decode prog_12_method_106_code 96 = .ok (.iconst 0, 1) := by decide +kernel
theorem d230_97 : decode prog_12_method_106_code 97 = .ok (.iconst 0, 1) := by decide +kernel
theorem d230_98 : decode prog_12_method_106_code 98 = .ok (.invokestatic 258, 3) := by decide +kernel
theorem d230_101 : decode prog_12_method_106_code 101 = .ok (.ireturn, 1) := by decide +kernel
theorem d230_102 : decode prog_12_method_106_code 102 = .ok (.iload_n 1, 1) := by decide +kernel
theorem d230_103 : decode prog_12_method_106_code 103 = .ok (.bipush 116, 2) := by decide +kernel
theorem d230_105 : decode prog_12_method_106_code 105 = .ok (.bipush 97, 2) := by decide +kernel
theorem d230_107 : decode prog_12_method_106_code 107 = .ok (.bipush 107, 2) := by decide +kernel
theorem d230_109 : decode prog_12_method_106_code 109 = .ok (.bipush 101, 2) := by decide +kernel
theorem d230_111 : decode prog_12_method_106_code 111 = .ok (.iconst 0, 1) := by decide +kernel
theorem d230_112 : decode prog_12_method_106_code 112 = .ok (.iconst 0, 1) := by decide +kernel
theorem d230_113 : decode prog_12_method_106_code 113 = .ok (.invokestatic 258, 3) := by decide +kernel
theorem d230_116 : decode prog_12_method_106_code 116 = .ok (.ireturn, 1) := by decide +kernel
theorem d230_117 : decode prog_12_method_106_code 117 = .ok (.iload_n 1, 1) := by decide +kernel
theorem d230_118 : decode prog_12_method_106_code 118 = .ok (.bipush 115, 2) := by decide +kernel
theorem d230_120 : decode prog_12_method_106_code 120 = .ok (.bipush 116, 2) := by decide +kernel
theorem d230_122 : decode prog_12_method_106_code 122 = .ok (.bipush 111, 2) := by decide +kernel
theorem d230_124 : decode prog_12_method_106_code 124 = .ok (.bipush 99, 2) := by decide +kernel
theorem d230_126 : decode prog_12_method_106_code 126 = .ok (.bipush 107, 2) := by decide +kernel
theorem d230_128 : decode prog_12_method_106_code 128 = .ok (.iconst 0, 1) := by decide +kernel
theorem d230_129 : decode prog_12_method_106_code 129 = .ok (.invokestatic 258, 3) := by decide +kernel
theorem d230_132 : decode prog_12_method_106_code 132 = .ok (.ireturn, 1) := by decide +kernel
theorem d230_133 : decode prog_12_method_106_code 133 = .ok (.iload_n 1, 1) := by decide +kernel
theorem d230_134 : decode prog_12_method_106_code 134 = .ok (.bipush 108, 2) := by decide +kernel
theorem d230_136 : decode prog_12_method_106_code 136 = .ok (.bipush 111, 2) := by decide +kernel
theorem d230_138 : decode prog_12_method_106_code 138 = .ok (.bipush 97, 2) := by decide +kernel
theorem d230_140 : decode prog_12_method_106_code 140 = .ok (.bipush 100, 2) := by decide +kernel
theorem d230_142 : decode prog_12_method_106_code 142 = .ok (.iconst 0, 1) := by decide +kernel
theorem d230_143 : decode prog_12_method_106_code 143 = .ok (.iconst 0, 1) := by decide +kernel
theorem d230_144 : decode prog_12_method_106_code 144 = .ok (.invokestatic 258, 3) := by decide +kernel
theorem d230_147 : decode prog_12_method_106_code 147 = .ok (.ireturn, 1) := by decide +kernel
theorem d230_148 : decode prog_12_method_106_code 148 = .ok (.iload_n 1, 1) := by decide +kernel
theorem d230_149 : decode prog_12_method_106_code 149 = .ok (.bipush 98, 2) := by decide +kernel
theorem d230_151 : decode prog_12_method_106_code 151 = .ok (.bipush 111, 2) := by decide +kernel
theorem d230_153 : decode prog_12_method_106_code 153 = .ok (.bipush 114, 2) := by decide +kernel
theorem d230_155 : decode prog_12_method_106_code 155 = .ok (.bipush 114, 2) := by decide +kernel
theorem d230_157 : decode prog_12_method_106_code 157 = .ok (.bipush 111, 2) := by decide +kernel
theorem d230_159 : decode prog_12_method_106_code 159 = .ok (.bipush 119, 2) := by decide +kernel
theorem d230_161 : decode prog_12_method_106_code 161 = .ok (.invokestatic 258, 3) := by decide +kernel
theorem d230_164 : decode prog_12_method_106_code 164 = .ok (.ireturn, 1) := by decide +kernel
theorem d230_165 : decode prog_12_method_106_code 165 = .ok (.iload_n 1, 1) := by decide +kernel
theorem d230_166 : decode prog_12_method_106_code 166 = .ok (.bipush 114, 2) := by decide +kernel
theorem d230_168 : decode prog_12_method_106_code 168 = .ok (.bipush 101, 2) := by decide +kernel
theorem d230_170 : decode prog_12_method_106_code 170 = .ok (.bipush 116, 2) := by decide +kernel
theorem d230_172 : decode prog_12_method_106_code 172 = .ok (.bipush 117, 2) := by decide +kernel
theorem d230_174 : decode prog_12_method_106_code 174 = .ok (.bipush 114, 2) := by decide +kernel
theorem d230_176 : decode prog_12_method_106_code 176 = .ok (.bipush 110, 2) := by decide +kernel
theorem d230_178 : decode prog_12_method_106_code 178 = .ok (.invokestatic 258, 3) := by decide +kernel
theorem d230_181 : decode prog_12_method_106_code 181 = .ok (.ireturn, 1) := by decide +kernel
theorem d230_182 : decode prog_12_method_106_code 182 = .ok (.iload_n 1, 1) := by decide +kernel
theorem d230_183 : decode prog_12_method_106_code 183 = .ok (.bipush 102, 2) := by decide +kernel
theorem d230_185 : decode prog_12_method_106_code 185 = .ok (.bipush 105, 2) := by decide +kernel
theorem d230_187 : decode prog_12_method_106_code 187 = .ok (.bipush 120, 2) := by decide +kernel
theorem d230_189 : decode prog_12_method_106_code 189 = .ok (.iconst 0, 1) := by decide +kernel
theorem d230_190 : decode prog_12_method_106_code 190 = .ok (.iconst 0, 1) := by decide +kernel
theorem d230_191 : decode prog_12_method_106_code 191 = .ok (.iconst 0, 1) := by decide +kernel
theorem d230_192 : decode prog_12_method_106_code 192 = .ok (.invokestatic 258, 3) := by decide +kernel
theorem d230_195 : decode prog_12_method_106_code 195 = .ok (.ireturn, 1) := by decide +kernel
theorem d230_196 : decode prog_12_method_106_code 196 = .ok (.iload_n 1, 1) := by decide +kernel
theorem d230_197 : decode prog_12_method_106_code 197 = .ok (.bipush 104, 2) := by decide +kernel
theorem d230_199 : decode prog_12_method_106_code 199 = .ok (.bipush 111, 2) := by decide +kernel
theorem d230_201 : decode prog_12_method_106_code 201 = .ok (.bipush 109, 2) := by decide +kernel
theorem d230_203 : decode prog_12_method_106_code 203 = .ok (.bipush 101, 2) := by decide +kernel
theorem d230_205 : decode prog_12_method_106_code 205 = .ok (.iconst 0, 1) := by decide +kernel
theorem d230_206 : decode prog_12_method_106_code 206 = .ok (.iconst 0, 1) := by decide +kernel
theorem d230_207 : decode prog_12_method_106_code 207 = .ok (.invokestatic 258, 3) := by decide +kernel
theorem d230_210 : decode prog_12_method_106_code 210 = .ok (.ireturn, 1) := by decide +kernel
theorem d230_211 : decode prog_12_method_106_code 211 = .ok (.iload_n 1, 1) := by decide +kernel
theorem d230_212 : decode prog_12_method_106_code 212 = .ok (.bipush 114, 2) := by decide +kernel
theorem d230_214 : decode prog_12_method_106_code 214 = .ok (.bipush 101, 2) := by decide +kernel
theorem d230_216 : decode prog_12_method_106_code 216 = .ok (.bipush 115, 2) := by decide +kernel
theorem d230_218 : decode prog_12_method_106_code 218 = .ok (.bipush 116, 2) := by decide +kernel
theorem d230_220 : decode prog_12_method_106_code 220 = .ok (.iconst 0, 1) := by decide +kernel
theorem d230_221 : decode prog_12_method_106_code 221 = .ok (.iconst 0, 1) := by decide +kernel
theorem d230_222 : decode prog_12_method_106_code 222 = .ok (.invokestatic 258, 3) := by decide +kernel
theorem d230_225 : decode prog_12_method_106_code 225 = .ok (.ireturn, 1) := by decide +kernel
theorem d231_0 : decode prog_12_method_105_code 0 = .ok (.iload_n 0, 1) := by decide +kernel
theorem d231_1 : decode prog_12_method_105_code 1 = .ok (.tableswitch 54 0 5 #[39, 41, 43, 45, 48, 51], 39) := by decide +kernel
theorem d231_40 : decode prog_12_method_105_code 40 = .ok (.iload_n 1, 1) := by decide +kernel
theorem d231_41 : decode prog_12_method_105_code 41 = .ok (.ireturn, 1) := by decide +kernel
theorem d231_42 : decode prog_12_method_105_code 42 = .ok (.iload_n 2, 1) := by decide +kernel
theorem d231_43 : decode prog_12_method_105_code 43 = .ok (.ireturn, 1) := by decide +kernel
theorem d231_44 : decode prog_12_method_105_code 44 = .ok (.iload_n 3, 1) := by decide +kernel
theorem d231_45 : decode prog_12_method_105_code 45 = .ok (.ireturn, 1) := by decide +kernel
theorem d231_46 : decode prog_12_method_105_code 46 = .ok (.iload 4, 2) := by decide +kernel
theorem d231_48 : decode prog_12_method_105_code 48 = .ok (.ireturn, 1) := by decide +kernel
theorem d231_49 : decode prog_12_method_105_code 49 = .ok (.iload 5, 2) := by decide +kernel
theorem d231_51 : decode prog_12_method_105_code 51 = .ok (.ireturn, 1) := by decide +kernel
theorem d231_52 : decode prog_12_method_105_code 52 = .ok (.iload 6, 2) := by decide +kernel
theorem d231_54 : decode prog_12_method_105_code 54 = .ok (.ireturn, 1) := by decide +kernel
theorem d231_55 : decode prog_12_method_105_code 55 = .ok (.iconst 0, 1) := by decide +kernel
theorem d231_56 : decode prog_12_method_105_code 56 = .ok (.ireturn, 1) := by decide +kernel
theorem d232_0 : decode prog_12_method_102_code 0 = .ok (.aload_n 0, 1) := by decide +kernel
theorem d232_1 : decode prog_12_method_102_code 1 = .ok (.dup, 1) := by decide +kernel
theorem d232_2 : decode prog_12_method_102_code 2 = .ok (.getfield 78, 3) := by decide +kernel
theorem d232_5 : decode prog_12_method_102_code 5 = .ok (.aload_n 0, 1) := by decide +kernel
theorem d232_6 : decode prog_12_method_102_code 6 = .ok (.invokevirtual 254, 3) := by decide +kernel
theorem d232_9 : decode prog_12_method_102_code 9 = .ok (.iload_n 1, 1) := by decide +kernel
theorem d232_10 : decode prog_12_method_102_code 10 = .ok (.if_icmp .eq 7, 3) := by decide +kernel
theorem d232_13 : decode prog_12_method_102_code 13 = .ok (.iconst 1, 1) := by decide +kernel
theorem d232_14 : decode prog_12_method_102_code 14 = .ok (.goto 4, 3) := by decide +kernel
theorem d232_17 : decode prog_12_method_102_code 17 = .ok (.iconst 0, 1) := by decide +kernel
theorem d232_18 : decode prog_12_method_102_code 18 = .ok (.ior, 1) := by decide +kernel
theorem d232_19 : decode prog_12_method_102_code 19 = .ok (.putfield 78, 3) := by decide +kernel
theorem d232_22 : decode prog_12_method_102_code 22 = .ok (.aload_n 0, 1) := by decide +kernel
theorem d232_23 : decode prog_12_method_102_code 23 = .ok (.dup, 1) := by decide +kernel
theorem d232_24 : decode prog_12_method_102_code 24 = .ok (.getfield 72, 3) := by decide +kernel
theorem d232_27 : decode prog_12_method_102_code 27 = .ok (.aload_n 0, 1) := by decide +kernel
theorem d232_28 : decode prog_12_method_102_code 28 = .ok (.getfield 78, 3) := by decide +kernel
theorem d232_31 : decode prog_12_method_102_code 31 = .ok (.ifCond .eq 7, 3) := by decide +kernel
theorem d232_34 : decode prog_12_method_102_code 34 = .ok (.iconst 0, 1) := by decide +kernel
theorem d232_35 : decode prog_12_method_102_code 35 = .ok (.goto 4, 3) := by decide +kernel
theorem d232_38 : decode prog_12_method_102_code 38 = .ok (.iconst 1, 1) := by decide +kernel
theorem d232_39 : decode prog_12_method_102_code 39 = .ok (.iadd, 1) := by decide +kernel
theorem d232_40 : decode prog_12_method_102_code 40 = .ok (.putfield 72, 3) := by decide +kernel
theorem d232_43 : decode prog_12_method_102_code 43 = .ok (.return_, 1) := by decide +kernel
theorem d233_0 : decode prog_12_method_101_code 0 = .ok (.aload_n 0, 1) := by decide +kernel
theorem d233_1 : decode prog_12_method_101_code 1 = .ok (.getfield 78, 3) := by decide +kernel
theorem d233_4 : decode prog_12_method_101_code 4 = .ok (.ifCond .ne 26, 3) := by decide +kernel
theorem d233_7 : decode prog_12_method_101_code 7 = .ok (.aload_n 0, 1) := by decide +kernel
theorem d233_8 : decode prog_12_method_101_code 8 = .ok (.getfield 72, 3) := by decide +kernel
theorem d233_11 : decode prog_12_method_101_code 11 = .ok (.aload_n 0, 1) := by decide +kernel
theorem d233_12 : decode prog_12_method_101_code 12 = .ok (.getfield 69, 3) := by decide +kernel
theorem d233_15 : decode prog_12_method_101_code 15 = .ok (.if_icmp .ge 15, 3) := by decide +kernel
theorem d233_18 : decode prog_12_method_101_code 18 = .ok (.aload_n 0, 1) := by decide +kernel
theorem d233_19 : decode prog_12_method_101_code 19 = .ok (.getfield 57, 3) := by decide +kernel
theorem d233_22 : decode prog_12_method_101_code 22 = .ok (.aload_n 0, 1) := by decide +kernel
theorem d233_23 : decode prog_12_method_101_code 23 = .ok (.getfield 72, 3) := by decide +kernel
theorem d233_26 : decode prog_12_method_101_code 26 = .ok (.iaload, 1) := by decide +kernel
theorem d233_27 : decode prog_12_method_101_code 27 = .ok (.goto 4, 3) := by decide +kernel
theorem d233_30 : decode prog_12_method_101_code 30 = .ok (.iconst (-1), 1) := by decide +kernel
theorem d233_31 : decode prog_12_method_101_code 31 = .ok (.ireturn, 1) := by decide +kernel
theorem d234_0 : decode prog_12_method_109_code 0 = .ok (.aload_n 0, 1) := by decide +kernel
theorem d234_1 : decode prog_12_method_109_code 1 = .ok (.iconst 0, 1) := by decide +kernel
theorem d234_2 : decode prog_12_method_109_code 2 = .ok (.aload_n 0, 1) := by decide +kernel
theorem d234_3 : decode prog_12_method_109_code 3 = .ok (.iconst 3, 1) := by decide +kernel
theorem d234_4 : decode prog_12_method_109_code 4 = .ok (.invokevirtual 265, 3) := by decide +kernel
theorem d234_7 : decode prog_12_method_109_code 7 = .ok (.invokevirtual 268, 3) := by decide +kernel
theorem d234_10 : decode prog_12_method_109_code 10 = .ok (.aload_n 0, 1) := by decide +kernel
theorem d234_11 : decode prog_12_method_109_code 11 = .ok (.bipush 44, 2) := by decide +kernel
theorem d234_13 : decode prog_12_method_109_code 13 = .ok (.invokevirtual 271, 3) := by decide +kernel
theorem d234_16 : decode prog_12_method_109_code 16 = .ok (.aload_n 0, 1) := by decide +kernel
theorem d234_17 : decode prog_12_method_109_code 17 = .ok (.iconst 1, 1) := by decide +kernel
theorem d234_18 : decode prog_12_method_109_code 18 = .ok (.aload_n 0, 1) := by decide +kernel
theorem d234_19 : decode prog_12_method_109_code 19 = .ok (.iconst 3, 1) := by decide +kernel
theorem d234_20 : decode prog_12_method_109_code 20 = .ok (.invokevirtual 265, 3) := by decide +kernel
theorem d234_23 : decode prog_12_method_109_code 23 = .ok (.invokevirtual 268, 3) := by decide +kernel
theorem d234_26 : decode prog_12_method_109_code 26 = .ok (.aload_n 0, 1) := by decide +kernel
theorem d234_27 : decode prog_12_method_109_code 27 = .ok (.bipush 32, 2) := by decide +kernel
theorem d234_29 : decode prog_12_method_109_code 29 = .ok (.invokevirtual 271, 3) := by decide +kernel
theorem d234_32 : decode prog_12_method_109_code 32 = .ok (.aload_n 0, 1) := by decide +kernel
theorem d234_33 : decode prog_12_method_109_code 33 = .ok (.iconst 2, 1) := by decide +kernel
theorem d234_34 : decode prog_12_method_109_code 34 = .ok (.aload_n 0, 1) := by decide +kernel
theorem d234_35 : decode prog_12_method_109_code 35 = .ok (.invokevirtual 274, 3) := by decide +kernel
theorem d234_38 : decode prog_12_method_109_code 38 = .ok (.invokevirtual 268, 3) := by decide +kernel
theorem d234_41 : decode prog_12_method_109_code 41 = .ok (.aload_n 0, 1) := by decide +kernel
theorem d234_42 : decode prog_12_method_109_code 42 = .ok (.iconst 3, 1) := by decide +kernel
theorem d234_43 : decode prog_12_method_109_code 43 = .ok (.aload_n 0, 1) := by decide +kernel
theorem d234_44 : decode prog_12_method_109_code 44 = .ok (.iconst 1, 1) := by decide +kernel
theorem d234_45 : decode prog_12_method_109_code 45 = .ok (.invokevirtual 265, 3) := by decide +kernel
theorem d234_48 : decode prog_12_method_109_code 48 = .ok (.invokevirtual 268, 3) := by decide +kernel
theorem d234_51 : decode prog_12_method_109_code 51 = .ok (.aload_n 0, 1) := by decide +kernel
theorem d234_52 : decode prog_12_method_109_code 52 = .ok (.bipush 32, 2) := by decide +kernel
theorem d234_54 : decode prog_12_method_109_code 54 = .ok (.invokevirtual 271, 3) := by decide +kernel
theorem d234_57 : decode prog_12_method_109_code 57 = .ok (.aload_n 0, 1) := by decide +kernel
theorem d234_58 : decode prog_12_method_109_code 58 = .ok (.iconst 4, 1) := by decide +kernel
theorem d234_59 : decode prog_12_method_109_code 59 = .ok (.aload_n 0, 1) := by decide +kernel
theorem d234_60 : decode prog_12_method_109_code 60 = .ok (.iconst 1, 1) := by decide +kernel
theorem d234_61 : decode prog_12_method_109_code 61 = .ok (.invokevirtual 265, 3) := by decide +kernel
theorem d234_64 : decode prog_12_method_109_code 64 = .ok (.invokevirtual 268, 3) := by decide +kernel
theorem d234_67 : decode prog_12_method_109_code 67 = .ok (.aload_n 0, 1) := by decide +kernel
theorem d234_68 : decode prog_12_method_109_code 68 = .ok (.bipush 64, 2) := by decide +kernel
theorem d234_70 : decode prog_12_method_109_code 70 = .ok (.invokevirtual 271, 3) := by decide +kernel
theorem d234_73 : decode prog_12_method_109_code 73 = .ok (.aload_n 0, 1) := by decide +kernel
theorem d234_74 : decode prog_12_method_109_code 74 = .ok (.iconst 5, 1) := by decide +kernel
theorem d234_75 : decode prog_12_method_109_code 75 = .ok (.aload_n 0, 1) := by decide +kernel
theorem d234_76 : decode prog_12_method_109_code 76 = .ok (.iconst 3, 1) := by decide +kernel
theorem d234_77 : decode prog_12_method_109_code 77 = .ok (.invokevirtual 265, 3) := by decide +kernel
theorem d234_80 : decode prog_12_method_109_code 80 = .ok (.invokevirtual 268, 3) := by decide +kernel
theorem d234_83 : decode prog_12_method_109_code 83 = .ok (.return_, 1) := by decide +kernel
theorem d235_0 : decode prog_12_method_103_code 0 = .ok (.aload_n 0, 1) := by decide +kernel
theorem d235_1 : decode prog_12_method_103_code 1 = .ok (.dup, 1) := by decide +kernel
theorem d235_2 : decode prog_12_method_103_code 2 = .ok (.getfield 78, 3) := by decide +kernel
theorem d235_5 : decode prog_12_method_103_code 5 = .ok (.aload_n 0, 1) := by decide +kernel
theorem d235_6 : decode prog_12_method_103_code 6 = .ok (.invokevirtual 254, 3) := by decide +kernel
theorem d235_9 : decode prog_12_method_103_code 9 = .ok (.bipush 48, 2) := by decide +kernel
theorem d235_11 : decode prog_12_method_103_code 11 = .ok (.bipush 57, 2) := by decide +kernel
theorem d235_13 : decode prog_12_method_103_code 13 = .ok (.invokestatic 89, 3) := by decide +kernel
theorem d235_16 : decode prog_12_method_103_code 16 = .ok (.ifCond .ne 7, 3) := by decide +kernel
theorem d235_19 : decode prog_12_method_103_code 19 = .ok (.iconst 1, 1) := by decide +kernel
theorem d235_20 : decode prog_12_method_103_code 20 = .ok (.goto 4, 3) := by decide +kernel
theorem d235_23 : decode prog_12_method_103_code 23 = .ok (.iconst 0, 1) := by decide +kernel
theorem d235_24 : decode prog_12_method_103_code 24 = .ok (.ior, 1) := by decide +kernel
theorem d235_25 : decode prog_12_method_103_code 25 = .ok (.putfield 78, 3) := by decide +kernel
theorem d235_28 : decode prog_12_method_103_code 28 = .ok (.iconst 0, 1) := by decide +kernel
theorem d235_29 : decode prog_12_method_103_code 29 = .ok (.istore_n 2, 1) := by decide +kernel
theorem d235_30 : decode prog_12_method_103_code 30 = .ok (.iconst 0, 1) := by decide +kernel
theorem d235_31 : decode prog_12_method_103_code 31 = .ok (.istore_n 3, 1) := by decide +kernel
theorem d235_32 : decode prog_12_method_103_code 32 = .ok (.iload_n 3, 1) := by decide +kernel
theorem d235_33 : decode prog_12_method_103_code 33 = .ok (.iload_n 1, 1) := by decide +kernel
theorem d235_34 : decode prog_12_method_103_code 34 = .ok (.if_icmp .ge 51, 3) := by decide +kernel
theorem d235_37 : decode prog_12_method_103_code 37 = .ok (.aload_n 0, 1) := by decide +kernel
theorem d235_38 : decode prog_12_method_103_code 38 = .ok (.invokevirtual 254, 3) := by decide +kernel
theorem d235_41 : decode prog_12_method_103_code 41 = .ok (.bipush 48, 2) := by decide +kernel
theorem d235_43 : decode prog_12_method_103_code 43 = .ok (.bipush 57, 2) := by decide +kernel
theorem d235_45 : decode prog_12_method_103_code 45 = .ok (.invokestatic 89, 3) := by decide +kernel
theorem d235_48 : decode prog_12_method_103_code 48 = .ok (.ifCond .eq 37, 3) := by decide +kernel
theorem d235_51 : decode prog_12_method_103_code 51 = .ok (.bipush 10, 2) := by decide +kernel
theorem d235_53 : decode prog_12_method_103_code 53 = .ok (.iload_n 2, 1) := by decide +kernel
theorem d235_54 : decode prog_12_method_103_code 54 = .ok (.imul, 1) := by decide +kernel
theorem d235_55 : decode prog_12_method_103_code 55 = .ok (.aload_n 0, 1) := by decide +kernel
theorem d235_56 : decode prog_12_method_103_code 56 = .ok (.getfield 57, 3) := by decide +kernel
theorem d235_59 : decode prog_12_method_103_code 59 = .ok (.aload_n 0, 1) := by decide +kernel
theorem d235_60 : decode prog_12_method_103_code 60 = .ok (.getfield 72, 3) := by decide +kernel
theorem d235_63 : decode prog_12_method_103_code 63 = .ok (.iaload, 1) := by decide +kernel
theorem d235_64 : decode prog_12_method_103_code 64 = .ok (.iadd, 1) := by decide +kernel
theorem d235_65 : decode prog_12_method_103_code 65 = .ok (.bipush 48, 2) := by decide +kernel
theorem d235_67 : decode prog_12_method_103_code 67 = .ok (.isub, 1) := by decide +kernel
theorem d235_68 : decode prog_12_method_103_code 68 = .ok (.istore_n 2, 1) := by decide +kernel
theorem d235_69 : decode prog_12_method_103_code 69 = .ok (.aload_n 0, 1) := by decide +kernel
theorem d235_70 : decode prog_12_method_103_code 70 = .ok (.dup, 1) := by decide +kernel
theorem d235_71 : decode prog_12_method_103_code 71 = .ok (.getfield 72, 3) := by decide +kernel
theorem d235_74 : decode prog_12_method_103_code 74 = .ok (.iconst 1, 1) := by decide +kernel
theorem d235_75 : decode prog_12_method_103_code 75 = .ok (.iadd, 1) := by decide +kernel
theorem d235_76 : decode prog_12_method_103_code 76 = .ok (.putfield 72, 3) := by decide +kernel
theorem d235_79 : decode prog_12_method_103_code 79 = .ok (.iinc 3 1, 3) := by decide +kernel
theorem d235_82 : decode prog_12_method_103_code 82 = .ok (.goto (-50), 3) := by decide +kernel
theorem d235_85 : decode prog_12_method_103_code 85 = .ok (.iload_n 2, 1) := by decide +kernel
theorem d235_86 : decode prog_12_method_103_code 86 = .ok (.ireturn, 1) := by decide +kernel
theorem d236_0 : decode prog_12_method_108_code 0 = .ok (.aload_n 0, 1) := by decide +kernel
theorem d236_1 : decode prog_12_method_108_code 1 = .ok (.getfield 63, 3) := by decide +kernel
theorem d236_4 : decode prog_12_method_108_code 4 = .ok (.bipush 6, 2) := by decide +kernel
theorem d236_6 : decode prog_12_method_108_code 6 = .ok (.aload_n 0, 1) := by decide +kernel
theorem d236_7 : decode prog_12_method_108_code 7 = .ok (.getfield 75, 3) := by decide +kernel
theorem d236_10 : decode prog_12_method_108_code 10 = .ok (.imul, 1) := by decide +kernel
theorem d236_11 : decode prog_12_method_108_code 11 = .ok (.iload_n 1, 1) := by decide +kernel
theorem d236_12 : decode prog_12_method_108_code 12 = .ok (.iadd, 1) := by decide +kernel
theorem d236_13 : decode prog_12_method_108_code 13 = .ok (.iload_n 2, 1) := by decide +kernel
theorem d236_14 : decode prog_12_method_108_code 14 = .ok (.iastore, 1) := by decide +kernel
theorem d236_15 : decode prog_12_method_108_code 15 = .ok (.return_, 1) := by decide +kernel
theorem d237_0 : decode prog_12_method_104_code 0 = .ok (.aload_n 0, 1) := by decide +kernel
theorem d237_1 : decode prog_12_method_104_code 1 = .ok (.invokevirtual 254, 3) := by decide +kernel
theorem d237_4 : decode prog_12_method_104_code 4 = .ok (.istore_n 1, 1) := by decide +kernel
theorem d237_5 : decode prog_12_method_104_code 5 = .ok (.aload_n 0, 1) := by decide +kernel
theorem d237_6 : decode prog_12_method_104_code 6 = .ok (.dup, 1) := by decide +kernel
theorem d237_7 : decode prog_12_method_104_code 7 = .ok (.getfield 78, 3) := by decide +kernel
theorem d237_10 : decode prog_12_method_104_code 10 = .ok (.iload_n 1, 1) := by decide +kernel
theorem d237_11 : decode prog_12_method_104_code 11 = .ok (.invokestatic 93, 3) := by decide +kernel
theorem d237_14 : decode prog_12_method_104_code 14 = .ok (.ifCond .ne 7, 3) := by decide +kernel
theorem d237_17 : decode prog_12_method_104_code 17 = .ok (.iconst 1, 1) := by decide +kernel
theorem d237_18 : decode prog_12_method_104_code 18 = .ok (.goto 4, 3) := by decide +kernel
theorem d237_21 : decode prog_12_method_104_code 21 = .ok (.iconst 0, 1) := by decide +kernel
theorem d237_22 : decode prog_12_method_104_code 22 = .ok (.ior, 1) := by decide +kernel
theorem d237_23 : decode prog_12_method_104_code 23 = .ok (.putfield 78, 3) := by decide +kernel
theorem d237_26 : decode prog_12_method_104_code 26 = .ok (.aload_n 0, 1) := by decide +kernel
theorem d237_27 : decode prog_12_method_104_code 27 = .ok (.dup, 1) := by decide +kernel
theorem d237_28 : decode prog_12_method_104_code 28 = .ok (.getfield 72, 3) := by decide +kernel
theorem d237_31 : decode prog_12_method_104_code 31 = .ok (.aload_n 0, 1) := by decide +kernel
theorem d237_32 : decode prog_12_method_104_code 32 = .ok (.getfield 78, 3) := by decide +kernel
theorem d237_35 : decode prog_12_method_104_code 35 = .ok (.ifCond .eq 7, 3) := by decide +kernel
theorem d237_38 : decode prog_12_method_104_code 38 = .ok (.iconst 0, 1) := by decide +kernel
theorem d237_39 : decode prog_12_method_104_code 39 = .ok (.goto 4, 3) := by decide +kernel
theorem d237_42 : decode prog_12_method_104_code 42 = .ok (.iconst 1, 1) := by decide +kernel
theorem d237_43 : decode prog_12_method_104_code 43 = .ok (.iadd, 1) := by decide +kernel
theorem d237_44 : decode prog_12_method_104_code 44 = .ok (.putfield 72, 3) := by decide +kernel
theorem d237_47 : decode prog_12_method_104_code 47 = .ok (.iload_n 1, 1) := by decide +kernel
theorem d237_48 : decode prog_12_method_104_code 48 = .ok (.ireturn, 1) := by decide +kernel
theorem d238_0 : decode prog_12_method_110_code 0 = .ok (.iload_n 1, 1) := by decide +kernel
theorem d238_1 : decode prog_12_method_110_code 1 = .ok (.iconst 4, 1) := by decide +kernel
theorem d238_2 : decode prog_12_method_110_code 2 = .ok (.if_icmp .ne 15, 3) := by decide +kernel
theorem d238_5 : decode prog_12_method_110_code 5 = .ok (.aload_n 0, 1) := by decide +kernel
theorem d238_6 : decode prog_12_method_110_code 6 = .ok (.iconst 0, 1) := by decide +kernel
theorem d238_7 : decode prog_12_method_110_code 7 = .ok (.aload_n 0, 1) := by decide +kernel
theorem d238_8 : decode prog_12_method_110_code 8 = .ok (.invokevirtual 274, 3) := by decide +kernel
theorem d238_11 : decode prog_12_method_110_code 11 = .ok (.invokevirtual 268, 3) := by decide +kernel
theorem d238_14 : decode prog_12_method_110_code 14 = .ok (.goto 22, 3) := by decide +kernel
theorem d238_17 : decode prog_12_method_110_code 17 = .ok (.aload_n 0, 1) := by decide +kernel
theorem d238_18 : decode prog_12_method_110_code 18 = .ok (.iconst 0, 1) := by decide +kernel
theorem d238_19 : decode prog_12_method_110_code 19 = .ok (.aload_n 0, 1) := by decide +kernel
theorem d238_20 : decode prog_12_method_110_code 20 = .ok (.iload_n 1, 1) := by decide +kernel
theorem d238_21 : decode prog_12_method_110_code 21 = .ok (.iconst 4, 1) := by decide +kernel
theorem d238_22 : decode prog_12_method_110_code 22 = .ok (.if_icmp .ge 7, 3) := by decide +kernel
theorem d238_25 : decode prog_12_method_110_code 25 = .ok (.iconst 3, 1) := by decide +kernel
theorem d238_26 : decode prog_12_method_110_code 26 = .ok (.goto 4, 3) := by decide +kernel
theorem d238_29 : decode prog_12_method_110_code 29 = .ok (.iconst 1, 1) := by decide +kernel
theorem d238_30 : decode prog_12_method_110_code 30 = .ok (.invokevirtual 265, 3) := by decide +kernel
theorem d238_33 : decode prog_12_method_110_code 33 = .ok (.invokevirtual 268, 3) := by decide +kernel
theorem d238_36 : decode prog_12_method_110_code 36 = .ok (.iload_n 1, 1) := by decide +kernel
theorem d238_37 : decode prog_12_method_110_code 37 = .ok (.iconst 2, 1) := by decide +kernel
theorem d238_38 : decode prog_12_method_110_code 38 = .ok (.if_icmp .ne 9, 3) := by decide +kernel
theorem d238_41 : decode prog_12_method_110_code 41 = .ok (.aload_n 0, 1) := by decide +kernel
theorem d238_42 : decode prog_12_method_110_code 42 = .ok (.bipush 62, 2) := by decide +kernel
theorem d238_44 : decode prog_12_method_110_code 44 = .ok (.invokevirtual 271, 3) := by decide +kernel
theorem d238_47 : decode prog_12_method_110_code 47 = .ok (.iload_n 1, 1) := by decide +kernel
theorem d238_48 : decode prog_12_method_110_code 48 = .ok (.iconst 5, 1) := by decide +kernel
theorem d238_49 : decode prog_12_method_110_code 49 = .ok (.if_icmp .ne 12, 3) := by decide +kernel
theorem d238_52 : decode prog_12_method_110_code 52 = .ok (.aload_n 0, 1) := by decide +kernel
theorem d238_53 : decode prog_12_method_110_code 53 = .ok (.iconst 2, 1) := by decide +kernel
theorem d238_54 : decode prog_12_method_110_code 54 = .ok (.aload_n 0, 1) := by decide +kernel
theorem d238_55 : decode prog_12_method_110_code 55 = .ok (.invokevirtual 274, 3) := by decide +kernel
theorem d238_58 : decode prog_12_method_110_code 58 = .ok (.invokevirtual 268, 3) := by decide +kernel
theorem d238_61 : decode prog_12_method_110_code 61 = .ok (.iload_n 1, 1) := by decide +kernel
theorem d238_62 : decode prog_12_method_110_code 62 = .ok (.bipush 8, 2) := by decide +kernel
theorem d238_64 : decode prog_12_method_110_code 64 = .ok (.if_icmp .eq 9, 3) := by decide +kernel
theorem d238_67 : decode prog_12_method_110_code 67 = .ok (.iload_n 1, 1) := by decide +kernel
theorem d238_68 : decode prog_12_method_110_code 68 = .ok (.bipush 10, 2) := by decide +kernel
theorem d238_70 : decode prog_12_method_110_code 70 = .ok (.if_icmp .ne 9, 3) := by decide +kernel
theorem d238_73 : decode prog_12_method_110_code 73 = .ok (.aload_n 0, 1) := by decide +kernel
theorem d238_74 : decode prog_12_method_110_code 74 = .ok (.bipush 32, 2) := by decide +kernel
theorem d238_76 : decode prog_12_method_110_code 76 = .ok (.invokevirtual 271, 3) := by decide +kernel
theorem d238_79 : decode prog_12_method_110_code 79 = .ok (.iload_n 1, 1) := by decide +kernel
theorem d238_80 : decode prog_12_method_110_code 80 = .ok (.iconst 2, 1) := by decide +kernel
theorem d238_81 : decode prog_12_method_110_code 81 = .ok (.if_icmp .eq 15, 3) := by decide +kernel
theorem d238_84 : decode prog_12_method_110_code 84 = .ok (.iload_n 1, 1) := by decide +kernel
theorem d238_85 : decode prog_12_method_110_code 85 = .ok (.bipush 6, 2) := by decide +kernel
theorem d238_87 : decode prog_12_method_110_code 87 = .ok (.if_icmp .eq 9, 3) := by decide +kernel
theorem d238_90 : decode prog_12_method_110_code 90 = .ok (.iload_n 1, 1) := by decide +kernel
theorem d238_91 : decode prog_12_method_110_code 91 = .ok (.bipush 7, 2) := by decide +kernel
theorem d238_93 : decode prog_12_method_110_code 93 = .ok (.if_icmp .ne 13, 3) := by decide +kernel
theorem d238_96 : decode prog_12_method_110_code 96 = .ok (.aload_n 0, 1) := by decide +kernel
theorem d238_97 : decode prog_12_method_110_code 97 = .ok (.iconst 1, 1) := by decide +kernel
theorem d238_98 : decode prog_12_method_110_code 98 = .ok (.aload_n 0, 1) := by decide +kernel
theorem d238_99 : decode prog_12_method_110_code 99 = .ok (.iconst 1, 1) := by decide +kernel
theorem d238_100 : decode prog_12_method_110_code 100 = .ok (.invokevirtual 265, 3) := by decide +kernel
theorem d238_103 : decode prog_12_method_110_code 103 = .ok (.invokevirtual 268, 3) := by decide +kernel
theorem d238_106 : decode prog_12_method_110_code 106 = .ok (.iload_n 1, 1) := by decide +kernel
theorem d238_107 : decode prog_12_method_110_code 107 = .ok (.iconst 4, 1) := by decide +kernel
theorem d238_108 : decode prog_12_method_110_code 108 = .ok (.if_icmp .eq 20, 3) := by decide +kernel
theorem d238_111 : decode prog_12_method_110_code 111 = .ok (.iload_n 1, 1) := by decide +kernel
theorem d238_112 : decode prog_12_method_110_code 112 = .ok (.iconst 5, 1) := by decide +kernel
theorem d238_113 : decode prog_12_method_110_code 113 = .ok (.if_icmp .eq 15, 3) := by decide +kernel
theorem d238_116 : decode prog_12_method_110_code 116 = .ok (.iload_n 1, 1) := by decide +kernel
theorem d238_117 : decode prog_12_method_110_code 117 = .ok (.bipush 8, 2) := by decide +kernel
theorem d238_119 : decode prog_12_method_110_code 119 = .ok (.if_icmp .eq 9, 3) := by decide +kernel
theorem d238_122 : decode prog_12_method_110_code 122 = .ok (.iload_n 1, 1) := by decide +kernel
theorem d238_123 : decode prog_12_method_110_code 123 = .ok (.bipush 10, 2) := by decide +kernel
theorem d238_125 : decode prog_12_method_110_code 125 = .ok (.if_icmp .ne 13, 3) := by decide +kernel
theorem d238_128 : decode prog_12_method_110_code 128 = .ok (.aload_n 0, 1) := by decide +kernel
theorem d238_129 : decode prog_12_method_110_code 129 = .ok (.iconst 1, 1) := by decide +kernel
theorem d238_130 : decode prog_12_method_110_code 130 = .ok (.aload_n 0, 1) := by decide +kernel
theorem d238_131 : decode prog_12_method_110_code 131 = .ok (.iconst 3, 1) := by decide +kernel
theorem d238_132 : decode prog_12_method_110_code 132 = .ok (.invokevirtual 265, 3) := by decide +kernel
theorem d238_135 : decode prog_12_method_110_code 135 = .ok (.invokevirtual 268, 3) := by decide +kernel
theorem d238_138 : decode prog_12_method_110_code 138 = .ok (.return_, 1) := by decide +kernel
theorem d239_0 : decode prog_12_method_113_code 0 = .ok (.aload_n 0, 1) := by decide +kernel
theorem d239_1 : decode prog_12_method_113_code 1 = .ok (.getfield 63, 3) := by decide +kernel
theorem d239_4 : decode prog_12_method_113_code 4 = .ok (.bipush 6, 2) := by decide +kernel
theorem d239_6 : decode prog_12_method_113_code 6 = .ok (.iload_n 1, 1) := by decide +kernel
theorem d239_7 : decode prog_12_method_113_code 7 = .ok (.imul, 1) := by decide +kernel
theorem d239_8 : decode prog_12_method_113_code 8 = .ok (.iaload, 1) := by decide +kernel
theorem d239_9 : decode prog_12_method_113_code 9 = .ok (.istore_n 2, 1) := by decide +kernel
theorem d239_10 : decode prog_12_method_113_code 10 = .ok (.aload_n 0, 1) := by decide +kernel
theorem d239_11 : decode prog_12_method_113_code 11 = .ok (.getfield 63, 3) := by decide +kernel
theorem d239_14 : decode prog_12_method_113_code 14 = .ok (.bipush 6, 2) := by decide +kernel
theorem d239_16 : decode prog_12_method_113_code 16 = .ok (.iload_n 1, 1) := by decide +kernel
theorem d239_17 : decode prog_12_method_113_code 17 = .ok (.imul, 1) := by decide +kernel
theorem d239_18 : decode prog_12_method_113_code 18 = .ok (.iconst 1, 1) := by decide +kernel
theorem d239_19 : decode prog_12_method_113_code 19 = .ok (.iadd, 1) := by decide +kernel
theorem d239_20 : decode prog_12_method_113_code 20 = .ok (.iaload, 1) := by decide +kernel
theorem d239_21 : decode prog_12_method_113_code 21 = .ok (.istore_n 3, 1) := by decide +kernel
theorem d239_22 : decode prog_12_method_113_code 22 = .ok (.aload_n 0, 1) := by decide +kernel
theorem d239_23 : decode prog_12_method_113_code 23 = .ok (.getfield 63, 3) := by decide +kernel
theorem d239_26 : decode prog_12_method_113_code 26 = .ok (.bipush 6, 2) := by decide +kernel
theorem d239_28 : decode prog_12_method_113_code 28 = .ok (.iload_n 1, 1) := by decide +kernel
theorem d239_29 : decode prog_12_method_113_code 29 = .ok (.imul, 1) := by decide +kernel
theorem d239_30 : decode prog_12_method_113_code 30 = .ok (.iconst 2, 1) := by decide +kernel
theorem d239_31 : decode prog_12_method_113_code 31 = .ok (.iadd, 1) := by decide +kernel
theorem d239_32 : decode prog_12_method_113_code 32 = .ok (.iaload, 1) := by decide +kernel
theorem d239_33 : decode prog_12_method_113_code 33 = .ok (.istore 4, 2) := by decide +kernel
theorem d239_35 : decode prog_12_method_113_code 35 = .ok (.iconst 0, 1) := by decide +kernel
theorem d239_36 : decode prog_12_method_113_code 36 = .ok (.istore 5, 2) := by decide +kernel
theorem d239_38 : decode prog_12_method_113_code 38 = .ok (.aload_n 0, 1) := by decide +kernel
theorem d239_39 : decode prog_12_method_113_code 39 = .ok (.getfield 60, 3) := by decide +kernel
theorem d239_42 : decode prog_12_method_113_code 42 = .ok (.iload_n 1, 1) := by decide +kernel
theorem d239_43 : decode prog_12_method_113_code 43 = .ok (.iaload, 1) := by decide +kernel
theorem d239_44 : decode prog_12_method_113_code 44 = .ok (.tableswitch 345 0 9 #[56, 147, 170, 191, 210, 231, 256, 281, 306, 327], 56) := by decide +kernel
theorem d239_100 : decode prog_12_method_113_code 100 = .ok (.aload_n 0, 1) := by decide +kernel
theorem d239_101 : decode prog_12_method_113_code 101 = .ok (.iload_n 2, 1) := by decide +kernel
theorem d239_102 : decode prog_12_method_113_code 102 = .ok (.iload_n 3, 1) := by decide +kernel
theorem d239_103 : decode prog_12_method_113_code 103 = .ok (.iload 4, 2) := by decide +kernel
theorem d239_105 : decode prog_12_method_113_code 105 = .ok (.aload_n 0, 1) := by decide +kernel
theorem d239_106 : decode prog_12_method_113_code 106 = .ok (.getfield 63, 3) := by decide +kernel
theorem d239_109 : decode prog_12_method_113_code 109 = .ok (.bipush 6, 2) := by decide +kernel
theorem d239_111 : decode prog_12_method_113_code 111 = .ok (.iload_n 1, 1) := by decide +kernel
theorem d239_112 : decode prog_12_method_113_code 112 = .ok (.imul, 1) := by decide +kernel
theorem d239_113 : decode prog_12_method_113_code 113 = .ok (.iconst 3, 1) := by decide +kernel
theorem d239_114 : decode prog_12_method_113_code 114 = .ok (.iadd, 1) := by decide +kernel
theorem d239_115 : decode prog_12_method_113_code 115 = .ok (.iaload, 1) := by decide +kernel
theorem d239_116 : decode prog_12_method_113_code 116 = .ok (.aload_n 0, 1) := by decide +kernel
theorem d239_117 : decode prog_12_method_113_code 117 = .ok (.getfield 63, 3) := by decide +kernel
theorem d239_120 : decode prog_12_method_113_code 120 = .ok (.bipush 6, 2) := by decide +kernel
theorem d239_122 : decode prog_12_method_113_code 122 = .ok (.iload_n 1, 1) := by decide +kernel
theorem d239_123 : decode prog_12_method_113_code 123 = .ok (.imul, 1) := by decide +kernel
theorem d239_124 : decode prog_12_method_113_code 124 = .ok (.iconst 4, 1) := by decide +kernel
theorem d239_125 : decode prog_12_method_113_code 125 = .ok (.iadd, 1) := by decide +kernel
theorem d239_126 : decode prog_12_method_113_code 126 = .ok (.iaload, 1) := by decide +kernel
theorem d239_127 : decode prog_12_method_113_code 127 = .ok (.aload_n 0, 1) := by decide +kernel
theorem d239_128 : decode prog_12_method_113_code 128 = .ok (.getfield 63, 3) := by decide +kernel
theorem d239_131 : decode prog_12_method_113_code 131 = .ok (.bipush 6, 2) := by decide +kernel
theorem d239_133 : decode prog_12_method_113_code 133 = .ok (.iload_n 1, 1) := by decide +kernel
theorem d239_134 : decode prog_12_method_113_code 134 = .ok (.imul, 1) := by decide +kernel
theorem d239_135 : decode prog_12_method_113_code 135 = .ok (.iconst 5, 1) := by decide +kernel
theorem d239_136 : decode prog_12_method_113_code 136 = .ok (.iadd, 1) := by decide +kernel
theorem d239_137 : decode prog_12_method_113_code 137 = .ok (.iaload, 1) := by decide +kernel
theorem d239_138 : decode prog_12_method_113_code 138 = .ok (.invokevirtual 103, 3) := by decide +kernel
theorem d239_141 : decode prog_12_method_113_code 141 = .ok (.ifCond .le 5, 3) := by decide +kernel
theorem d239_144 : decode prog_12_method_113_code 144 = .ok (.iconst 1, 1) := by decide +kernel
theorem d239_145 : decode prog_12_method_113_code 145 = .ok (.ireturn, 1) := by decide +kernel
theorem d239_146 : decode prog_12_method_113_code 146 = .ok (.aload_n 0, 1) := by decide +kernel
theorem d239_147 : decode prog_12_method_113_code 147 = .ok (.iload_n 2, 1) := by decide +kernel
theorem d239_148 : decode prog_12_method_113_code 148 = .ok (.iload_n 3, 1) := by decide +kernel
theorem d239_149 : decode prog_12_method_113_code 149 = .ok (.iload 4, 2) := by decide +kernel
theorem d239_151 : decode prog_12_method_113_code 151 = .ok (.aload_n 0, 1) := by decide +kernel
theorem d239_152 : decode prog_12_method_113_code 152 = .ok (.getfield 63, 3) := by decide +kernel
theorem d239_155 : decode prog_12_method_113_code 155 = .ok (.bipush 6, 2) := by decide +kernel
theorem d239_157 : decode prog_12_method_113_code 157 = .ok (.iload_n 1, 1) := by decide +kernel
theorem d239_158 : decode prog_12_method_113_code 158 = .ok (.imul, 1) := by decide +kernel
theorem d239_159 : decode prog_12_method_113_code 159 = .ok (.iconst 3, 1) := by decide +kernel
theorem d239_160 : decode prog_12_method_113_code 160 = .ok (.iadd, 1) := by decide +kernel
theorem d239_161 : decode prog_12_method_113_code 161 = .ok (.iaload, 1) := by decide +kernel
theorem d239_162 : decode prog_12_method_113_code 162 = .ok (.aload_n 0, 1) := by decide +kernel
theorem d239_163 : decode prog_12_method_113_code 163 = .ok (.getfield 63, 3) := by decide +kernel
theorem d239_166 : decode prog_12_method_113_code 166 = .ok (.bipush 6, 2) := by decide +kernel
theorem d239_168 : decode prog_12_method_113_code 168 = .ok (.iload_n 1, 1) := by decide +kernel
theorem d239_169 : decode prog_12_method_113_code 169 = .ok (.imul, 1) := by decide +kernel
theorem d239_170 : decode prog_12_method_113_code 170 = .ok (.iconst 4, 1) := by decide +kernel
theorem d239_171 : decode prog_12_method_113_code 171 = .ok (.iadd, 1) := by decide +kernel
theorem d239_172 : decode prog_12_method_113_code 172 = .ok (.iaload, 1) := by decide +kernel
theorem d239_173 : decode prog_12_method_113_code 173 = .ok (.aload_n 0, 1) := by decide +kernel
theorem d239_174 : decode prog_12_method_113_code 174 = .ok (.getfield 63, 3) := by decide +kernel
theorem d239_177 : decode prog_12_method_113_code 177 = .ok (.bipush 6, 2) := by decide +kernel
theorem d239_179 : decode prog_12_method_113_code 179 = .ok (.iload_n 1, 1) := by decide +kernel
theorem d239_180 : decode prog_12_method_113_code 180 = .ok (.imul, 1) := by decide +kernel
theorem d239_181 : decode prog_12_method_113_code 181 = .ok (.iconst 5, 1) := by decide +kernel
theorem d239_182 : decode prog_12_method_113_code 182 = .ok (.iadd, 1) := by decide +kernel
theorem d239_183 : decode prog_12_method_113_code 183 = .ok (.iaload, 1) := by decide +kernel
theorem d239_184 : decode prog_12_method_113_code 184 = .ok (.invokevirtual 111, 3) := by decide +kernel
theorem d239_187 : decode prog_12_method_113_code 187 = .ok (.istore 5, 2) := by decide +kernel
theorem d239_189 : decode prog_12_method_113_code 189 = .ok (.iconst 0, 1) := by decide +kernel
theorem d239_190 : decode prog_12_method_113_code 190 = .ok (.ireturn, 1) := by decide +kernel
theorem d239_191 : decode prog_12_method_113_code 191 = .ok (.aload_n 0, 1) := by decide +kernel
theorem d239_192 : decode prog_12_method_113_code 192 = .ok (.iload_n 2, 1) := by decide +kernel
theorem d239_193 : decode prog_12_method_113_code 193 = .ok (.invokevirtual 117, 3) := by decide +kernel
theorem d239_196 : decode prog_12_method_113_code 196 = .ok (.ifCond .ge 5, 3) := by decide +kernel
theorem d239_199 : decode prog_12_method_113_code 199 = .ok (.iconst 1, 1) := by decide +kernel
theorem d239_200 : decode prog_12_method_113_code 200 = .ok (.ireturn, 1) := by decide +kernel
theorem d239_201 : decode prog_12_method_113_code 201 = .ok (.aload_n 0, 1) := by decide +kernel
theorem d239_202 : decode prog_12_method_113_code 202 = .ok (.aload_n 0, 1) := by decide +kernel
theorem d239_203 : decode prog_12_method_113_code 203 = .ok (.iload_n 2, 1) := by decide +kernel
theorem d239_204 : decode prog_12_method_113_code 204 = .ok (.invokevirtual 117, 3) := by decide +kernel
theorem d239_207 : decode prog_12_method_113_code 207 = .ok (.invokevirtual 120, 3) := by decide +kernel
theorem d239_210 : decode prog_12_method_113_code 210 = .ok (.istore 5, 2) := by decide +kernel
theorem d239_212 : decode prog_12_method_113_code 212 = .ok (.iconst 0, 1) := by decide +kernel
theorem d239_213 : decode prog_12_method_113_code 213 = .ok (.ireturn, 1) := by decide +kernel
theorem d239_214 : decode prog_12_method_113_code 214 = .ok (.aload_n 0, 1) := by decide +kernel
theorem d239_215 : decode prog_12_method_113_code 215 = .ok (.iload_n 2, 1) := by decide +kernel
theorem d239_216 : decode prog_12_method_113_code 216 = .ok (.iload_n 3, 1) := by decide +kernel
theorem d239_217 : decode prog_12_method_113_code 217 = .ok (.invokevirtual 129, 3) := by decide +kernel
theorem d239_220 : decode prog_12_method_113_code 220 = .ok (.ifCond .le 5, 3) := by decide +kernel
theorem d239_223 : decode prog_12_method_113_code 223 = .ok (.iconst 1, 1) := by decide +kernel
theorem d239_224 : decode prog_12_method_113_code 224 = .ok (.ireturn, 1) := by decide +kernel
theorem d239_225 : decode prog_12_method_113_code 225 = .ok (.aload_n 0, 1) := by decide +kernel
theorem d239_226 : decode prog_12_method_113_code 226 = .ok (.iload_n 2, 1) := by decide +kernel
theorem d239_227 : decode prog_12_method_113_code 227 = .ok (.iload_n 3, 1) := by decide +kernel
theorem d239_228 : decode prog_12_method_113_code 228 = .ok (.invokevirtual 132, 3) := by decide +kernel
theorem d239_231 : decode prog_12_method_113_code 231 = .ok (.istore 5, 2) := by decide +kernel
theorem d239_233 : decode prog_12_method_113_code 233 = .ok (.iconst 0, 1) := by decide +kernel
theorem d239_234 : decode prog_12_method_113_code 234 = .ok (.ireturn, 1) := by decide +kernel
theorem d239_235 : decode prog_12_method_113_code 235 = .ok (.aload_n 0, 1) := by decide +kernel
theorem d239_236 : decode prog_12_method_113_code 236 = .ok (.iload_n 2, 1) := by decide +kernel
theorem d239_237 : decode prog_12_method_113_code 237 = .ok (.invokevirtual 135, 3) := by decide +kernel
theorem d239_240 : decode prog_12_method_113_code 240 = .ok (.ifCond .le 5, 3) := by decide +kernel
theorem d239_243 : decode prog_12_method_113_code 243 = .ok (.iconst 1, 1) := by decide +kernel
theorem d239_244 : decode prog_12_method_113_code 244 = .ok (.ireturn, 1) := by decide +kernel
theorem d239_245 : decode prog_12_method_113_code 245 = .ok (.aload_n 0, 1) := by decide +kernel
theorem d239_246 : decode prog_12_method_113_code 246 = .ok (.iload_n 2, 1) := by decide +kernel
theorem d239_247 : decode prog_12_method_113_code 247 = .ok (.invokevirtual 138, 3) := by decide +kernel
theorem d239_250 : decode prog_12_method_113_code 250 = .ok (.istore 5, 2) := by decide +kernel
theorem d239_252 : decode prog_12_method_113_code 252 = .ok (.iconst 0, 1) := by decide +kernel
theorem d239_253 : decode prog_12_method_113_code 253 = .ok (.ireturn, 1) := by decide +kernel
theorem d239_254 : decode prog_12_method_113_code 254 = .ok (.aload_n 0, 1) := by decide +kernel
theorem d239_255 : decode prog_12_method_113_code 255 = .ok (.iload_n 2, 1) := by decide +kernel
theorem d239_256 : decode prog_12_method_113_code 256 = .ok (.iload_n 3, 1) := by decide +kernel
theorem d239_257 : decode prog_12_method_113_code 257 = .ok (.invokevirtual 141, 3) := by decide +kernel
theorem d239_260 : decode prog_12_method_113_code 260 = .ok (.ifCond .le 5, 3) := by decide +kernel
theorem d239_263 : decode prog_12_method_113_code 263 = .ok (.iconst 1, 1) := by decide +kernel
theorem d239_264 : decode prog_12_method_113_code 264 = .ok (.ireturn, 1) := by decide +kernel
theorem d239_265 : decode prog_12_method_113_code 265 = .ok (.aload_n 0, 1) := by decide +kernel
theorem d239_266 : decode prog_12_method_113_code 266 = .ok (.iload_n 2, 1) := by decide +kernel
theorem d239_267 : decode prog_12_method_113_code 267 = .ok (.iload_n 3, 1) := by decide +kernel
theorem d239_268 : decode prog_12_method_113_code 268 = .ok (.invokevirtual 144, 3) := by decide +kernel
theorem d239_271 : decode prog_12_method_113_code 271 = .ok (.istore 5, 2) := by decide +kernel
theorem d239_273 : decode prog_12_method_113_code 273 = .ok (.iconst 0, 1) := by decide +kernel
theorem d239_274 : decode prog_12_method_113_code 274 = .ok (.ireturn, 1) := by decide +kernel
theorem d239_275 : decode prog_12_method_113_code 275 = .ok (.aload_n 0, 1) := by decide +kernel
theorem d239_276 : decode prog_12_method_113_code 276 = .ok (.iload_n 2, 1) := by decide +kernel
theorem d239_277 : decode prog_12_method_113_code 277 = .ok (.iload 4, 2) := by decide +kernel
theorem d239_279 : decode prog_12_method_113_code 279 = .ok (.iload_n 3, 1) := by decide +kernel
theorem d239_280 : decode prog_12_method_113_code 280 = .ok (.invokevirtual 160, 3) := by decide +kernel
theorem d239_283 : decode prog_12_method_113_code 283 = .ok (.ifCond .le 5, 3) := by decide +kernel
theorem d239_286 : decode prog_12_method_113_code 286 = .ok (.iconst 1, 1) := by decide +kernel
theorem d239_287 : decode prog_12_method_113_code 287 = .ok (.ireturn, 1) := by decide +kernel
theorem d239_288 : decode prog_12_method_113_code 288 = .ok (.aload_n 0, 1) := by decide +kernel
theorem d239_289 : decode prog_12_method_113_code 289 = .ok (.iload_n 2, 1) := by decide +kernel
theorem d239_290 : decode prog_12_method_113_code 290 = .ok (.iload 4, 2) := by decide +kernel
theorem d239_292 : decode prog_12_method_113_code 292 = .ok (.iload_n 3, 1) := by decide +kernel
theorem d239_293 : decode prog_12_method_113_code 293 = .ok (.invokevirtual 164, 3) := by decide +kernel
theorem d239_296 : decode prog_12_method_113_code 296 = .ok (.istore 5, 2) := by decide +kernel
theorem d239_298 : decode prog_12_method_113_code 298 = .ok (.iconst 0, 1) := by decide +kernel
theorem d239_299 : decode prog_12_method_113_code 299 = .ok (.ireturn, 1) := by decide +kernel
theorem d239_300 : decode prog_12_method_113_code 300 = .ok (.aload_n 0, 1) := by decide +kernel
theorem d239_301 : decode prog_12_method_113_code 301 = .ok (.iload_n 2, 1) := by decide +kernel
theorem d239_302 : decode prog_12_method_113_code 302 = .ok (.iload_n 3, 1) := by decide +kernel
theorem d239_303 : decode prog_12_method_113_code 303 = .ok (.iconst 0, 1) := by decide +kernel
theorem d239_304 : decode prog_12_method_113_code 304 = .ok (.invokevirtual 170, 3) := by decide +kernel
theorem d239_307 : decode prog_12_method_113_code 307 = .ok (.ifCond .le 5, 3) := by decide +kernel
theorem d239_310 : decode prog_12_method_113_code 310 = .ok (.iconst 1, 1) := by decide +kernel
theorem d239_311 : decode prog_12_method_113_code 311 = .ok (.ireturn, 1) := by decide +kernel
theorem d239_312 : decode prog_12_method_113_code 312 = .ok (.aload_n 0, 1) := by decide +kernel
theorem d239_313 : decode prog_12_method_113_code 313 = .ok (.iload_n 2, 1) := by decide +kernel
theorem d239_314 : decode prog_12_method_113_code 314 = .ok (.iload_n 3, 1) := by decide +kernel
theorem d239_315 : decode prog_12_method_113_code 315 = .ok (.iload_n 2, 1) := by decide +kernel
theorem d239_316 : decode prog_12_method_113_code 316 = .ok (.iconst 1, 1) := by decide +kernel
theorem d239_317 : decode prog_12_method_113_code 317 = .ok (.iadd, 1) := by decide +kernel
theorem d239_318 : decode prog_12_method_113_code 318 = .ok (.invokevirtual 173, 3) := by decide +kernel
theorem d239_321 : decode prog_12_method_113_code 321 = .ok (.istore 5, 2) := by decide +kernel
theorem d239_323 : decode prog_12_method_113_code 323 = .ok (.iconst 0, 1) := by decide +kernel
theorem d239_324 : decode prog_12_method_113_code 324 = .ok (.ireturn, 1) := by decide +kernel
theorem d239_325 : decode prog_12_method_113_code 325 = .ok (.aload_n 0, 1) := by decide +kernel
theorem d239_326 : decode prog_12_method_113_code 326 = .ok (.iload_n 2, 1) := by decide +kernel
theorem d239_327 : decode prog_12_method_113_code 327 = .ok (.iload_n 3, 1) := by decide +kernel
theorem d239_328 : decode prog_12_method_113_code 328 = .ok (.iload_n 2, 1) := by decide +kernel
theorem d239_329 : decode prog_12_method_113_code 329 = .ok (.iconst 1, 1) := by decide +kernel
theorem d239_330 : decode prog_12_method_113_code 330 = .ok (.iadd, 1) := by decide +kernel
theorem d239_331 : decode prog_12_method_113_code 331 = .ok (.invokevirtual 170, 3) := by decide +kernel
theorem d239_334 : decode prog_12_method_113_code 334 = .ok (.ifCond .le 5, 3) := by decide +kernel
theorem d239_337 : decode prog_12_method_113_code 337 = .ok (.iconst 1, 1) := by decide +kernel
theorem d239_338 : decode prog_12_method_113_code 338 = .ok (.ireturn, 1) := by decide +kernel
theorem d239_339 : decode prog_12_method_113_code 339 = .ok (.aload_n 0, 1) := by decide +kernel
theorem d239_340 : decode prog_12_method_113_code 340 = .ok (.iload_n 2, 1) := by decide +kernel
theorem d239_341 : decode prog_12_method_113_code 341 = .ok (.iload_n 3, 1) := by decide +kernel
theorem d239_342 : decode prog_12_method_113_code 342 = .ok (.iconst 0, 1) := by decide +kernel
theorem d239_343 : decode prog_12_method_113_code 343 = .ok (.invokevirtual 173, 3) := by decide +kernel
theorem d239_346 : decode prog_12_method_113_code 346 = .ok (.istore 5, 2) := by decide +kernel
theorem d239_348 : decode prog_12_method_113_code 348 = .ok (.iconst 0, 1) := by decide +kernel
theorem d239_349 : decode prog_12_method_113_code 349 = .ok (.ireturn, 1) := by decide +kernel
theorem d239_350 : decode prog_12_method_113_code 350 = .ok (.aload_n 0, 1) := by decide +kernel
theorem d239_351 : decode prog_12_method_113_code 351 = .ok (.iload_n 2, 1) := by decide +kernel
theorem d239_352 : decode prog_12_method_113_code 352 = .ok (.iload_n 3, 1) := by decide +kernel
theorem d239_353 : decode prog_12_method_113_code 353 = .ok (.invokevirtual 192, 3) := by decide +kernel
theorem d239_356 : decode prog_12_method_113_code 356 = .ok (.ifCond .le 5, 3) := by decide +kernel
theorem d239_359 : decode prog_12_method_113_code 359 = .ok (.iconst 1, 1) := by decide +kernel
theorem d239_360 : decode prog_12_method_113_code 360 = .ok (.ireturn, 1) := by decide +kernel
theorem d239_361 : decode prog_12_method_113_code 361 = .ok (.aload_n 0, 1) := by decide +kernel
theorem d239_362 : decode prog_12_method_113_code 362 = .ok (.iload_n 2, 1) := by decide +kernel
theorem d239_363 : decode prog_12_method_113_code 363 = .ok (.iload_n 3, 1) := by decide +kernel
theorem d239_364 : decode prog_12_method_113_code 364 = .ok (.invokevirtual 195, 3) := by decide +kernel
theorem d239_367 : decode prog_12_method_113_code 367 = .ok (.istore 5, 2) := by decide +kernel
theorem d239_369 : decode prog_12_method_113_code 369 = .ok (.iconst 0, 1) := by decide +kernel
theorem d239_370 : decode prog_12_method_113_code 370 = .ok (.ireturn, 1) := by decide +kernel
theorem d239_371 : decode prog_12_method_113_code 371 = .ok (.iload_n 2, 1) := by decide +kernel
theorem d239_372 : decode prog_12_method_113_code 372 = .ok (.invokestatic 123, 3) := by decide +kernel
theorem d239_375 : decode prog_12_method_113_code 375 = .ok (.ifCond .ne 5, 3) := by decide +kernel
theorem d239_378 : decode prog_12_method_113_code 378 = .ok (.iconst 1, 1) := by decide +kernel
theorem d239_379 : decode prog_12_method_113_code 379 = .ok (.ireturn, 1) := by decide +kernel
theorem d239_380 : decode prog_12_method_113_code 380 = .ok (.aload_n 0, 1) := by decide +kernel
theorem d239_381 : decode prog_12_method_113_code 381 = .ok (.iload_n 2, 1) := by decide +kernel
theorem d239_382 : decode prog_12_method_113_code 382 = .ok (.invokevirtual 198, 3) := by decide +kernel
theorem d239_385 : decode prog_12_method_113_code 385 = .ok (.istore 5, 2) := by decide +kernel
theorem d239_387 : decode prog_12_method_113_code 387 = .ok (.iconst 0, 1) := by decide +kernel
theorem d239_388 : decode prog_12_method_113_code 388 = .ok (.ireturn, 1) := by decide +kernel
theorem d239_389 : decode prog_12_method_113_code 389 = .ok (.iload_n 2, 1) := by decide +kernel
theorem d239_390 : decode prog_12_method_113_code 390 = .ok (.iload_n 3, 1) := by decide +kernel
theorem d239_391 : decode prog_12_method_113_code 391 = .ok (.invokestatic 201, 3) := by decide +kernel
theorem d239_394 : decode prog_12_method_113_code 394 = .ok (.ifCond .le 5, 3) := by decide +kernel
theorem d239_397 : decode prog_12_method_113_code 397 = .ok (.iconst 1, 1) := by decide +kernel
theorem d239_398 : decode prog_12_method_113_code 398 = .ok (.ireturn, 1) := by decide +kernel
theorem d239_399 : decode prog_12_method_113_code 399 = .ok (.aload_n 0, 1) := by decide +kernel
theorem d239_400 : decode prog_12_method_113_code 400 = .ok (.iload_n 2, 1) := by decide +kernel
theorem d239_401 : decode prog_12_method_113_code 401 = .ok (.iload_n 3, 1) := by decide +kernel
theorem d239_402 : decode prog_12_method_113_code 402 = .ok (.invokevirtual 204, 3) := by decide +kernel
theorem d239_405 : decode prog_12_method_113_code 405 = .ok (.istore 5, 2) := by decide +kernel
theorem d239_407 : decode prog_12_method_113_code 407 = .ok (.iconst 0, 1) := by decide +kernel
theorem d239_408 : decode prog_12_method_113_code 408 = .ok (.ireturn, 1) := by decide +kernel
theorem d240_0 : decode prog_12_method_116_code 0 = .ok (.aload_n 0, 1) := by decide +kernel
theorem d240_1 : decode prog_12_method_116_code 1 = .ok (.aload_n 0, 1) := by decide +kernel
theorem d240_2 : decode prog_12_method_116_code 2 = .ok (.getfield 35, 3) := by decide +kernel
theorem d240_5 : decode prog_12_method_116_code 5 = .ok (.invokevirtual 295, 3) := by decide +kernel
theorem d240_8 : decode prog_12_method_116_code 8 = .ok (.ireturn, 1) := by decide +kernel
theorem d241_0 : decode prog_12_method_115_code 0 = .ok (.aload_n 0, 1) := by decide +kernel
theorem d241_1 : decode prog_12_method_115_code 1 = .ok (.iload_n 1, 1) := by decide +kernel
theorem d241_2 : decode prog_12_method_115_code 2 = .ok (.ifCond .lt 7, 3) := by decide +kernel
theorem d241_5 : decode prog_12_method_115_code 5 = .ok (.iconst 1, 1) := by decide +kernel
theorem d241_6 : decode prog_12_method_115_code 6 = .ok (.goto 4, 3) := by decide +kernel
theorem d241_9 : decode prog_12_method_115_code 9 = .ok (.iconst 0, 1) := by decide +kernel
theorem d241_10 : decode prog_12_method_115_code 10 = .ok (.invokevirtual 210, 3) := by decide +kernel
theorem d241_13 : decode prog_12_method_115_code 13 = .ok (.ifCond .le 7, 3) := by decide +kernel
theorem d241_16 : decode prog_12_method_115_code 16 = .ok (.iconst 0, 1) := by decide +kernel
theorem d241_17 : decode prog_12_method_115_code 17 = .ok (.goto 4, 3) := by decide +kernel
theorem d241_20 : decode prog_12_method_115_code 20 = .ok (.iload_n 1, 1) := by decide +kernel
theorem d241_21 : decode prog_12_method_115_code 21 = .ok (.ireturn, 1) := by decide +kernel
theorem d242_0 : decode prog_12_method_117_code 0 = .ok (.aload_n 0, 1) := by decide +kernel
theorem d242_1 : decode prog_12_method_117_code 1 = .ok (.aload_n 0, 1) := by decide +kernel
theorem d242_2 : decode prog_12_method_117_code 2 = .ok (.getfield 38, 3) := by decide +kernel
theorem d242_5 : decode prog_12_method_117_code 5 = .ok (.invokevirtual 295, 3) := by decide +kernel
theorem d242_8 : decode prog_12_method_117_code 8 = .ok (.ireturn, 1) := by decide +kernel
theorem d243_0 : decode prog_12_method_118_code 0 = .ok (.aload_n 0, 1) := by decide +kernel
theorem d243_1 : decode prog_12_method_118_code 1 = .ok (.aload_n 0, 1) := by decide +kernel
theorem d243_2 : decode prog_12_method_118_code 2 = .ok (.getfield 32, 3) := by decide +kernel
theorem d243_5 : decode prog_12_method_118_code 5 = .ok (.ifCond .le 7, 3) := by decide +kernel
theorem d243_8 : decode prog_12_method_118_code 8 = .ok (.iconst 1, 1) := by decide +kernel
theorem d243_9 : decode prog_12_method_118_code 9 = .ok (.goto 4, 3) := by decide +kernel
theorem d243_12 : decode prog_12_method_118_code 12 = .ok (.iconst 0, 1) := by decide +kernel
theorem d243_13 : decode prog_12_method_118_code 13 = .ok (.invokevirtual 210, 3) := by decide +kernel
theorem d243_16 : decode prog_12_method_118_code 16 = .ok (.ifCond .le 5, 3) := by decide +kernel
theorem d243_19 : decode prog_12_method_118_code 19 = .ok (.iconst 0, 1) := by decide +kernel
theorem d243_20 : decode prog_12_method_118_code 20 = .ok (.ireturn, 1) := by decide +kernel
theorem d243_21 : decode prog_12_method_118_code 21 = .ok (.aload_n 0, 1) := by decide +kernel
theorem d243_22 : decode prog_12_method_118_code 22 = .ok (.dup, 1) := by decide +kernel
theorem d243_23 : decode prog_12_method_118_code 23 = .ok (.getfield 32, 3) := by decide +kernel
theorem d243_26 : decode prog_12_method_118_code 26 = .ok (.iconst 1, 1) := by decide +kernel
theorem d243_27 : decode prog_12_method_118_code 27 = .ok (.isub, 1) := by decide +kernel
theorem d243_28 : decode prog_12_method_118_code 28 = .ok (.putfield 32, 3) := by decide +kernel
theorem d243_31 : decode prog_12_method_118_code 31 = .ok (.aload_n 0, 1) := by decide +kernel
theorem d243_32 : decode prog_12_method_118_code 32 = .ok (.getfield 19, 3) := by decide +kernel
theorem d243_35 : decode prog_12_method_118_code 35 = .ok (.sipush 140, 3) := by decide +kernel
theorem d243_38 : decode prog_12_method_118_code 38 = .ok (.aload_n 0, 1) := by decide +kernel
theorem d243_39 : decode prog_12_method_118_code 39 = .ok (.getfield 32, 3) := by decide +kernel
theorem d243_42 : decode prog_12_method_118_code 42 = .ok (.imul, 1) := by decide +kernel
theorem d243_43 : decode prog_12_method_118_code 43 = .ok (.aload_n 0, 1) := by decide +kernel
theorem d243_44 : decode prog_12_method_118_code 44 = .ok (.getfield 7, 3) := by decide +kernel
theorem d243_47 : decode prog_12_method_118_code 47 = .ok (.iconst 0, 1) := by decide +kernel
theorem d243_48 : decode prog_12_method_118_code 48 = .ok (.invokestatic 81, 3) := by decide +kernel
theorem d243_51 : decode prog_12_method_118_code 51 = .ok (.aload_n 0, 1) := by decide +kernel
theorem d243_52 : decode prog_12_method_118_code 52 = .ok (.getfield 32, 3) := by decide +kernel
theorem d243_55 : decode prog_12_method_118_code 55 = .ok (.ireturn, 1) := by decide +kernel
theorem d244_0 : decode prog_12_method_119_code 0 = .ok (.aload_n 0, 1) := by decide +kernel
theorem d244_1 : decode prog_12_method_119_code 1 = .ok (.iconst 0, 1) := by decide +kernel
theorem d244_2 : decode prog_12_method_119_code 2 = .ok (.putfield 28, 3) := by decide +kernel
theorem d244_5 : decode prog_12_method_119_code 5 = .ok (.aload_n 0, 1) := by decide +kernel
theorem d244_6 : decode prog_12_method_119_code 6 = .ok (.getfield 7, 3) := by decide +kernel
theorem d244_9 : decode prog_12_method_119_code 9 = .ok (.iconst 0, 1) := by decide +kernel
theorem d244_10 : decode prog_12_method_119_code 10 = .ok (.aload_n 0, 1) := by decide +kernel
theorem d244_11 : decode prog_12_method_119_code 11 = .ok (.getfield 16, 3) := by decide +kernel
theorem d244_14 : decode prog_12_method_119_code 14 = .ok (.iconst 0, 1) := by decide +kernel
theorem d244_15 : decode prog_12_method_119_code 15 = .ok (.invokestatic 81, 3) := by decide +kernel
theorem d244_18 : decode prog_12_method_119_code 18 = .ok (.aload_n 0, 1) := by decide +kernel
theorem d244_19 : decode prog_12_method_119_code 19 = .ok (.iconst 1, 1) := by decide +kernel
theorem d244_20 : decode prog_12_method_119_code 20 = .ok (.putfield 47, 3) := by decide +kernel
theorem d244_23 : decode prog_12_method_119_code 23 = .ok (.aload_n 0, 1) := by decide +kernel
theorem d244_24 : decode prog_12_method_119_code 24 = .ok (.getfield 7, 3) := by decide +kernel
theorem d244_27 : decode prog_12_method_119_code 27 = .ok (.iconst 0, 1) := by decide +kernel
theorem d244_28 : decode prog_12_method_119_code 28 = .ok (.iaload, 1) := by decide +kernel
theorem d244_29 : decode prog_12_method_119_code 29 = .ok (.ireturn, 1) := by decide +kernel
theorem d245_0 : decode prog_12_method_120_code 0 = .ok (.aload_n 0, 1) := by decide +kernel
theorem d245_1 : decode prog_12_method_120_code 1 = .ok (.aload_n 0, 1) := by decide +kernel
theorem d245_2 : decode prog_12_method_120_code 2 = .ok (.getfield 47, 3) := by decide +kernel
theorem d245_5 : decode prog_12_method_120_code 5 = .ok (.invokevirtual 210, 3) := by decide +kernel
theorem d245_8 : decode prog_12_method_120_code 8 = .ok (.ifCond .le 5, 3) := by decide +kernel
theorem d245_11 : decode prog_12_method_120_code 11 = .ok (.iconst 0, 1) := by decide +kernel
theorem d245_12 : decode prog_12_method_120_code 12 = .ok (.ireturn, 1) := by decide +kernel
theorem d245_13 : decode prog_12_method_120_code 13 = .ok (.aload_n 0, 1) := by decide +kernel
theorem d245_14 : decode prog_12_method_120_code 14 = .ok (.getfield 16, 3) := by decide +kernel
theorem d245_17 : decode prog_12_method_120_code 17 = .ok (.iconst 0, 1) := by decide +kernel
theorem d245_18 : decode prog_12_method_120_code 18 = .ok (.aload_n 0, 1) := by decide +kernel
theorem d245_19 : decode prog_12_method_120_code 19 = .ok (.getfield 7, 3) := by decide +kernel
theorem d245_22 : decode prog_12_method_120_code 22 = .ok (.iconst 0, 1) := by decide +kernel
theorem d245_23 : decode prog_12_method_120_code 23 = .ok (.invokestatic 81, 3) := by decide +kernel
theorem d245_26 : decode prog_12_method_120_code 26 = .ok (.aload_n 0, 1) := by decide +kernel
theorem d245_27 : decode prog_12_method_120_code 27 = .ok (.iconst 0, 1) := by decide +kernel
theorem d245_28 : decode prog_12_method_120_code 28 = .ok (.putfield 32, 3) := by decide +kernel
theorem d245_31 : decode prog_12_method_120_code 31 = .ok (.aload_n 0, 1) := by decide +kernel
theorem d245_32 : decode prog_12_method_120_code 32 = .ok (.getfield 7, 3) := by decide +kernel
theorem d245_35 : decode prog_12_method_120_code 35 = .ok (.iconst 0, 1) := by decide +kernel
theorem d245_36 : decode prog_12_method_120_code 36 = .ok (.iaload, 1) := by decide +kernel
theorem d245_37 : decode prog_12_method_120_code 37 = .ok (.ireturn, 1) := by decide +kernel
theorem d246_0 : decode method_3_code 0 = .ok (.aload 7, 2) := by decide +kernel
theorem d246_2 : decode method_3_code 2 = .ok (.iconst 0, 1) := by decide +kernel
theorem d246_3 : decode method_3_code 3 = .ok (.aload_n 0, 1) := by decide +kernel
theorem d246_4 : decode method_3_code 4 = .ok (.iload_n 1, 1) := by decide +kernel
theorem d246_5 : decode method_3_code 5 = .ok (.iload_n 2, 1) := by decide +kernel
theorem d246_6 : decode method_3_code 6 = .ok (.iload_n 3, 1) := by decide +kernel
theorem d246_7 : decode method_3_code 7 = .ok (.iload 4, 2) := by decide +kernel
theorem d246_9 : decode method_3_code 9 = .ok (.iload 5, 2) := by decide +kernel
theorem d246_11 : decode method_3_code 11 = .ok (.iload 6, 2) := by decide +kernel
theorem d246_13 : decode method_3_code 13 = .ok (.invokevirtual 7, 3) := by decide +kernel
theorem d246_16 : decode method_3_code 16 = .ok (.i2l, 1) := by decide +kernel
theorem d246_17 : decode method_3_code 17 = .ok (.lastore, 1) := by decide +kernel
theorem d246_18 : decode method_3_code 18 = .ok (.goto 11, 3) := by decide +kernel
theorem d246_21 : decode method_3_code 21 = .ok (.astore 8, 2) := by decide +kernel
theorem d246_23 : decode method_3_code 23 = .ok (.iconst 1, 1) := by decide +kernel
theorem d246_24 : decode method_3_code 24 = .ok (.ireturn, 1) := by decide +kernel
theorem d246_25 : decode method_3_code 25 = .ok (.astore 8, 2) := by decide +kernel
theorem d246_27 : decode method_3_code 27 = .ok (.iconst 2, 1) := by decide +kernel
theorem d246_28 : decode method_3_code 28 = .ok (.ireturn, 1) := by decide +kernel
theorem d246_29 : decode method_3_code 29 = .ok (.iconst 0, 1) := by decide +kernel
theorem d246_30 : decode method_3_code 30 = .ok (.ireturn, 1) := by decide +kernel
theorem d247_0 : decode method_4_code 0 = .ok (.aload_n 2, 1) := by decide +kernel
theorem d247_1 : decode method_4_code 1 = .ok (.iconst 0, 1) := by decide +kernel
theorem d247_2 : decode method_4_code 2 = .ok (.aload_n 0, 1) := by decide +kernel
theorem d247_3 : decode method_4_code 3 = .ok (.iload_n 1, 1) := by decide +kernel
theorem d247_4 : decode method_4_code 4 = .ok (.invokevirtual 17, 3) := by decide +kernel
theorem d247_7 : decode method_4_code 7 = .ok (.i2l, 1) := by decide +kernel
theorem d247_8 : decode method_4_code 8 = .ok (.lastore, 1) := by decide +kernel
theorem d247_9 : decode method_4_code 9 = .ok (.goto 6, 3) := by decide +kernel
theorem d247_12 : decode method_4_code 12 = .ok (.astore_n 3, 1) := by decide +kernel
theorem d247_13 : decode method_4_code 13 = .ok (.iconst 1, 1) := by decide +kernel
theorem d247_14 : decode method_4_code 14 = .ok (.ireturn, 1) := by decide +kernel
theorem d247_15 : decode method_4_code 15 = .ok (.iconst 0, 1) := by decide +kernel
theorem d247_16 : decode method_4_code 16 = .ok (.ireturn, 1) := by decide +kernel
theorem d248_0 : decode method_5_code 0 = .ok (.aload_n 3, 1) := by decide +kernel
theorem d248_1 : decode method_5_code 1 = .ok (.iconst 0, 1) := by decide +kernel
theorem d248_2 : decode method_5_code 2 = .ok (.aload_n 0, 1) := by decide +kernel
theorem d248_3 : decode method_5_code 3 = .ok (.iload_n 1, 1) := by decide +kernel
theorem d248_4 : decode method_5_code 4 = .ok (.iload_n 2, 1) := by decide +kernel
theorem d248_5 : decode method_5_code 5 = .ok (.invokevirtual 23, 3) := by decide +kernel
theorem d248_8 : decode method_5_code 8 = .ok (.i2l, 1) := by decide +kernel
theorem d248_9 : decode method_5_code 9 = .ok (.lastore, 1) := by decide +kernel
theorem d248_10 : decode method_5_code 10 = .ok (.goto 15, 3) := by decide +kernel
theorem d248_13 : decode method_5_code 13 = .ok (.astore 4, 2) := by decide +kernel
theorem d248_15 : decode method_5_code 15 = .ok (.iconst 1, 1) := by decide +kernel
theorem d248_16 : decode method_5_code 16 = .ok (.ireturn, 1) := by decide +kernel
theorem d248_17 : decode method_5_code 17 = .ok (.astore 4, 2) := by decide +kernel
theorem d248_19 : decode method_5_code 19 = .ok (.iconst 2, 1) := by decide +kernel
theorem d248_20 : decode method_5_code 20 = .ok (.ireturn, 1) := by decide +kernel
theorem d248_21 : decode method_5_code 21 = .ok (.astore 4, 2) := by decide +kernel
theorem d248_23 : decode method_5_code 23 = .ok (.iconst 3, 1) := by decide +kernel
theorem d248_24 : decode method_5_code 24 = .ok (.ireturn, 1) := by decide +kernel
theorem d248_25 : decode method_5_code 25 = .ok (.iconst 0, 1) := by decide +kernel
theorem d248_26 : decode method_5_code 26 = .ok (.ireturn, 1) := by decide +kernel
theorem d249_0 : decode method_6_code 0 = .ok (.aload_n 2, 1) := by decide +kernel
theorem d249_1 : decode method_6_code 1 = .ok (.iconst 0, 1) := by decide +kernel
theorem d249_2 : decode method_6_code 2 = .ok (.aload_n 0, 1) := by decide +kernel
theorem d249_3 : decode method_6_code 3 = .ok (.iload_n 1, 1) := by decide +kernel
theorem d249_4 : decode method_6_code 4 = .ok (.invokevirtual 29, 3) := by decide +kernel
theorem d249_7 : decode method_6_code 7 = .ok (.i2l, 1) := by decide +kernel
theorem d249_8 : decode method_6_code 8 = .ok (.lastore, 1) := by decide +kernel
theorem d249_9 : decode method_6_code 9 = .ok (.goto 9, 3) := by decide +kernel
theorem d249_12 : decode method_6_code 12 = .ok (.astore_n 3, 1) := by decide +kernel
theorem d249_13 : decode method_6_code 13 = .ok (.iconst 1, 1) := by decide +kernel
theorem d249_14 : decode method_6_code 14 = .ok (.ireturn, 1) := by decide +kernel
theorem d249_15 : decode method_6_code 15 = .ok (.astore_n 3, 1) := by decide +kernel
theorem d249_16 : decode method_6_code 16 = .ok (.iconst 2, 1) := by decide +kernel
theorem d249_17 : decode method_6_code 17 = .ok (.ireturn, 1) := by decide +kernel
theorem d249_18 : decode method_6_code 18 = .ok (.iconst 0, 1) := by decide +kernel
theorem d249_19 : decode method_6_code 19 = .ok (.ireturn, 1) := by decide +kernel
theorem d250_0 : decode method_7_code 0 = .ok (.aload_n 3, 1) := by decide +kernel
theorem d250_1 : decode method_7_code 1 = .ok (.iconst 0, 1) := by decide +kernel
theorem d250_2 : decode method_7_code 2 = .ok (.aload_n 0, 1) := by decide +kernel
theorem d250_3 : decode method_7_code 3 = .ok (.iload_n 1, 1) := by decide +kernel
theorem d250_4 : decode method_7_code 4 = .ok (.iload_n 2, 1) := by decide +kernel
theorem d250_5 : decode method_7_code 5 = .ok (.invokevirtual 32, 3) := by decide +kernel
theorem d250_8 : decode method_7_code 8 = .ok (.i2l, 1) := by decide +kernel
theorem d250_9 : decode method_7_code 9 = .ok (.lastore, 1) := by decide +kernel
theorem d250_10 : decode method_7_code 10 = .ok (.goto 11, 3) := by decide +kernel
theorem d250_13 : decode method_7_code 13 = .ok (.astore 4, 2) := by decide +kernel
theorem d250_15 : decode method_7_code 15 = .ok (.iconst 1, 1) := by decide +kernel
theorem d250_16 : decode method_7_code 16 = .ok (.ireturn, 1) := by decide +kernel
theorem d250_17 : decode method_7_code 17 = .ok (.astore 4, 2) := by decide +kernel
theorem d250_19 : decode method_7_code 19 = .ok (.iconst 2, 1) := by decide +kernel
theorem d250_20 : decode method_7_code 20 = .ok (.ireturn, 1) := by decide +kernel
theorem d250_21 : decode method_7_code 21 = .ok (.iconst 0, 1) := by decide +kernel
theorem d250_22 : decode method_7_code 22 = .ok (.ireturn, 1) := by decide +kernel
theorem d251_0 : decode method_8_code 0 = .ok (.aload 4, 2) := by decide +kernel
theorem d251_2 : decode method_8_code 2 = .ok (.iconst 0, 1) := by decide +kernel
theorem d251_3 : decode method_8_code 3 = .ok (.aload_n 0, 1) := by decide +kernel
theorem d251_4 : decode method_8_code 4 = .ok (.iload_n 1, 1) := by decide +kernel
theorem d251_5 : decode method_8_code 5 = .ok (.iload_n 2, 1) := by decide +kernel
theorem d251_6 : decode method_8_code 6 = .ok (.iload_n 3, 1) := by decide +kernel
theorem d251_7 : decode method_8_code 7 = .ok (.invokevirtual 36, 3) := by decide +kernel
theorem d251_10 : decode method_8_code 10 = .ok (.i2l, 1) := by decide +kernel
theorem d251_11 : decode method_8_code 11 = .ok (.lastore, 1) := by decide +kernel
theorem d251_12 : decode method_8_code 12 = .ok (.goto 19, 3) := by decide +kernel
theorem d251_15 : decode method_8_code 15 = .ok (.astore 5, 2) := by decide +kernel
theorem d251_17 : decode method_8_code 17 = .ok (.iconst 1, 1) := by decide +kernel
theorem d251_18 : decode method_8_code 18 = .ok (.ireturn, 1) := by decide +kernel
theorem d251_19 : decode method_8_code 19 = .ok (.astore 5, 2) := by decide +kernel
theorem d251_21 : decode method_8_code 21 = .ok (.iconst 2, 1) := by decide +kernel
theorem d251_22 : decode method_8_code 22 = .ok (.ireturn, 1) := by decide +kernel
theorem d251_23 : decode method_8_code 23 = .ok (.astore 5, 2) := by decide +kernel
theorem d251_25 : decode method_8_code 25 = .ok (.iconst 3, 1) := by decide +kernel
theorem d251_26 : decode method_8_code 26 = .ok (.ireturn, 1) := by decide +kernel
theorem d251_27 : decode method_8_code 27 = .ok (.astore 5, 2) := by decide +kernel
theorem d251_29 : decode method_8_code 29 = .ok (.iconst 4, 1) := by decide +kernel
theorem d251_30 : decode method_8_code 30 = .ok (.ireturn, 1) := by decide +kernel
theorem d251_31 : decode method_8_code 31 = .ok (.iconst 0, 1) := by decide +kernel
theorem d251_32 : decode method_8_code 32 = .ok (.ireturn, 1) := by decide +kernel
theorem d252_0 : decode method_9_code 0 = .ok (.aload_n 3, 1) := by decide +kernel
theorem d252_1 : decode method_9_code 1 = .ok (.iconst 0, 1) := by decide +kernel
theorem d252_2 : decode method_9_code 2 = .ok (.aload_n 0, 1) := by decide +kernel
theorem d252_3 : decode method_9_code 3 = .ok (.iload_n 1, 1) := by decide +kernel
theorem d252_4 : decode method_9_code 4 = .ok (.iload_n 2, 1) := by decide +kernel
theorem d252_5 : decode method_9_code 5 = .ok (.invokevirtual 42, 3) := by decide +kernel
theorem d252_8 : decode method_9_code 8 = .ok (.i2l, 1) := by decide +kernel
theorem d252_9 : decode method_9_code 9 = .ok (.lastore, 1) := by decide +kernel
theorem d252_10 : decode method_9_code 10 = .ok (.goto 11, 3) := by decide +kernel
theorem d252_13 : decode method_9_code 13 = .ok (.astore 4, 2) := by decide +kernel
theorem d252_15 : decode method_9_code 15 = .ok (.iconst 1, 1) := by decide +kernel
theorem d252_16 : decode method_9_code 16 = .ok (.ireturn, 1) := by decide +kernel
theorem d252_17 : decode method_9_code 17 = .ok (.astore 4, 2) := by decide +kernel
theorem d252_19 : decode method_9_code 19 = .ok (.iconst 2, 1) := by decide +kernel
theorem d252_20 : decode method_9_code 20 = .ok (.ireturn, 1) := by decide +kernel
theorem d252_21 : decode method_9_code 21 = .ok (.iconst 0, 1) := by decide +kernel
theorem d252_22 : decode method_9_code 22 = .ok (.ireturn, 1) := by decide +kernel
theorem d253_0 : decode method_10_code 0 = .ok (.aload_n 3, 1) := by decide +kernel
theorem d253_1 : decode method_10_code 1 = .ok (.iconst 0, 1) := by decide +kernel
theorem d253_2 : decode method_10_code 2 = .ok (.aload_n 0, 1) := by decide +kernel
theorem d253_3 : decode method_10_code 3 = .ok (.iload_n 1, 1) := by decide +kernel
theorem d253_4 : decode method_10_code 4 = .ok (.iload_n 2, 1) := by decide +kernel
theorem d253_5 : decode method_10_code 5 = .ok (.invokevirtual 45, 3) := by decide +kernel
theorem d253_8 : decode method_10_code 8 = .ok (.i2l, 1) := by decide +kernel
theorem d253_9 : decode method_10_code 9 = .ok (.lastore, 1) := by decide +kernel
theorem d253_10 : decode method_10_code 10 = .ok (.goto 11, 3) := by decide +kernel
theorem d253_13 : decode method_10_code 13 = .ok (.astore 4, 2) := by decide +kernel
theorem d253_15 : decode method_10_code 15 = .ok (.iconst 1, 1) := by decide +kernel
theorem d253_16 : decode method_10_code 16 = .ok (.ireturn, 1) := by decide +kernel
theorem d253_17 : decode method_10_code 17 = .ok (.astore 4, 2) := by decide +kernel
theorem d253_19 : decode method_10_code 19 = .ok (.iconst 2, 1) := by decide +kernel
theorem d253_20 : decode method_10_code 20 = .ok (.ireturn, 1) := by decide +kernel
theorem d253_21 : decode method_10_code 21 = .ok (.iconst 0, 1) := by decide +kernel
theorem d253_22 : decode method_10_code 22 = .ok (.ireturn, 1) := by decide +kernel
theorem d254_0 : decode method_11_code 0 = .ok (.aload_n 3, 1) := by decide +kernel
theorem d254_1 : decode method_11_code 1 = .ok (.iconst 0, 1) := by decide +kernel
theorem d254_2 : decode method_11_code 2 = .ok (.aload_n 0, 1) := by decide +kernel
theorem d254_3 : decode method_11_code 3 = .ok (.iload_n 1, 1) := by decide +kernel
theorem d254_4 : decode method_11_code 4 = .ok (.iload_n 2, 1) := by decide +kernel
theorem d254_5 : decode method_11_code 5 = .ok (.invokevirtual 48, 3) := by decide +kernel
theorem d254_8 : decode method_11_code 8 = .ok (.i2l, 1) := by decide +kernel
theorem d254_9 : decode method_11_code 9 = .ok (.lastore, 1) := by decide +kernel
theorem d254_10 : decode method_11_code 10 = .ok (.goto 19, 3) := by decide +kernel
theorem d254_13 : decode method_11_code 13 = .ok (.astore 4, 2) := by decide +kernel
theorem d254_15 : decode method_11_code 15 = .ok (.iconst 1, 1) := by decide +kernel
theorem d254_16 : decode method_11_code 16 = .ok (.ireturn, 1) := by decide +kernel
theorem d254_17 : decode method_11_code 17 = .ok (.astore 4, 2) := by decide +kernel
theorem d254_19 : decode method_11_code 19 = .ok (.iconst 2, 1) := by decide +kernel
theorem d254_20 : decode method_11_code 20 = .ok (.ireturn, 1) := by decide +kernel
theorem d254_21 : decode method_11_code 21 = .ok (.astore 4, 2) := by decide +kernel
theorem d254_23 : decode method_11_code 23 = .ok (.iconst 3, 1) := by decide +kernel
theorem d254_24 : decode method_11_code 24 = .ok (.ireturn, 1) := by decide +kernel
theorem d254_25 : decode method_11_code 25 = .ok (.astore 4, 2) := by decide +kernel
theorem d254_27 : decode method_11_code 27 = .ok (.iconst 4, 1) := by decide +kernel
theorem d254_28 : decode method_11_code 28 = .ok (.ireturn, 1) := by decide +kernel
theorem d254_29 : decode method_11_code 29 = .ok (.iconst 0, 1) := by decide +kernel
theorem d254_30 : decode method_11_code 30 = .ok (.ireturn, 1) := by decide +kernel
theorem d255_0 : decode method_12_code 0 = .ok (.aload_n 2, 1) := by decide +kernel
theorem d255_1 : decode method_12_code 1 = .ok (.iconst 0, 1) := by decide +kernel
theorem d255_2 : decode method_12_code 2 = .ok (.aload_n 0, 1) := by decide +kernel
theorem d255_3 : decode method_12_code 3 = .ok (.iload_n 1, 1) := by decide +kernel
theorem d255_4 : decode method_12_code 4 = .ok (.invokevirtual 51, 3) := by decide +kernel
theorem d255_7 : decode method_12_code 7 = .ok (.i2l, 1) := by decide +kernel
theorem d255_8 : decode method_12_code 8 = .ok (.lastore, 1) := by decide +kernel
theorem d255_9 : decode method_12_code 9 = .ok (.goto 6, 3) := by decide +kernel
theorem d255_12 : decode method_12_code 12 = .ok (.astore_n 3, 1) := by decide +kernel
theorem d255_13 : decode method_12_code 13 = .ok (.iconst 1, 1) := by decide +kernel
theorem d255_14 : decode method_12_code 14 = .ok (.ireturn, 1) := by decide +kernel
theorem d255_15 : decode method_12_code 15 = .ok (.iconst 0, 1) := by decide +kernel
theorem d255_16 : decode method_12_code 16 = .ok (.ireturn, 1) := by decide +kernel
theorem d256_0 : decode method_13_code 0 = .ok (.aload_n 3, 1) := by decide +kernel
theorem d256_1 : decode method_13_code 1 = .ok (.iconst 0, 1) := by decide +kernel
theorem d256_2 : decode method_13_code 2 = .ok (.aload_n 0, 1) := by decide +kernel
theorem d256_3 : decode method_13_code 3 = .ok (.iload_n 1, 1) := by decide +kernel
theorem d256_4 : decode method_13_code 4 = .ok (.iload_n 2, 1) := by decide +kernel
theorem d256_5 : decode method_13_code 5 = .ok (.invokevirtual 54, 3) := by decide +kernel
theorem d256_8 : decode method_13_code 8 = .ok (.i2l, 1) := by decide +kernel
theorem d256_9 : decode method_13_code 9 = .ok (.lastore, 1) := by decide +kernel
theorem d256_10 : decode method_13_code 10 = .ok (.goto 11, 3) := by decide +kernel
theorem d256_13 : decode method_13_code 13 = .ok (.astore 4, 2) := by decide +kernel
theorem d256_15 : decode method_13_code 15 = .ok (.iconst 1, 1) := by decide +kernel
theorem d256_16 : decode method_13_code 16 = .ok (.ireturn, 1) := by decide +kernel
theorem d256_17 : decode method_13_code 17 = .ok (.astore 4, 2) := by decide +kernel
theorem d256_19 : decode method_13_code 19 = .ok (.iconst 2, 1) := by decide +kernel
theorem d256_20 : decode method_13_code 20 = .ok (.ireturn, 1) := by decide +kernel
theorem d256_21 : decode method_13_code 21 = .ok (.iconst 0, 1) := by decide +kernel
theorem d256_22 : decode method_13_code 22 = .ok (.ireturn, 1) := by decide +kernel
theorem d257_0 : decode method_14_code 0 = .ok (.aload_n 2, 1) := by decide +kernel
theorem d257_1 : decode method_14_code 1 = .ok (.iconst 0, 1) := by decide +kernel
theorem d257_2 : decode method_14_code 2 = .ok (.aload_n 0, 1) := by decide +kernel
theorem d257_3 : decode method_14_code 3 = .ok (.iload_n 1, 1) := by decide +kernel
theorem d257_4 : decode method_14_code 4 = .ok (.invokevirtual 57, 3) := by decide +kernel
theorem d257_7 : decode method_14_code 7 = .ok (.i2l, 1) := by decide +kernel
theorem d257_8 : decode method_14_code 8 = .ok (.lastore, 1) := by decide +kernel
theorem d257_9 : decode method_14_code 9 = .ok (.goto 6, 3) := by decide +kernel
theorem d257_12 : decode method_14_code 12 = .ok (.astore_n 3, 1) := by decide +kernel
theorem d257_13 : decode method_14_code 13 = .ok (.iconst 1, 1) := by decide +kernel
theorem d257_14 : decode method_14_code 14 = .ok (.ireturn, 1) := by decide +kernel
theorem d257_15 : decode method_14_code 15 = .ok (.iconst 0, 1) := by decide +kernel
theorem d257_16 : decode method_14_code 16 = .ok (.ireturn, 1) := by decide +kernel
theorem d258_0 : decode method_15_code 0 = .ok (.aload_n 2, 1) := by decide +kernel
theorem d258_1 : decode method_15_code 1 = .ok (.iconst 0, 1) := by decide +kernel
theorem d258_2 : decode method_15_code 2 = .ok (.aload_n 0, 1) := by decide +kernel
theorem d258_3 : decode method_15_code 3 = .ok (.iload_n 1, 1) := by decide +kernel
theorem d258_4 : decode method_15_code 4 = .ok (.invokevirtual 61, 3) := by decide +kernel
theorem d258_7 : decode method_15_code 7 = .ok (.i2l, 1) := by decide +kernel
theorem d258_8 : decode method_15_code 8 = .ok (.lastore, 1) := by decide +kernel
theorem d258_9 : decode method_15_code 9 = .ok (.goto 6, 3) := by decide +kernel
theorem d258_12 : decode method_15_code 12 = .ok (.astore_n 3, 1) := by decide +kernel
theorem d258_13 : decode method_15_code 13 = .ok (.iconst 1, 1) := by decide +kernel
theorem d258_14 : decode method_15_code 14 = .ok (.ireturn, 1) := by decide +kernel
theorem d258_15 : decode method_15_code 15 = .ok (.iconst 0, 1) := by decide +kernel
theorem d258_16 : decode method_15_code 16 = .ok (.ireturn, 1) := by decide +kernel
theorem d259_0 : decode method_16_code 0 = .ok (.aload_n 2, 1) := by decide +kernel
theorem d259_1 : decode method_16_code 1 = .ok (.iconst 0, 1) := by decide +kernel
theorem d259_2 : decode method_16_code 2 = .ok (.aload_n 0, 1) := by decide +kernel
theorem d259_3 : decode method_16_code 3 = .ok (.iload_n 1, 1) := by decide +kernel
theorem d259_4 : decode method_16_code 4 = .ok (.invokevirtual 64, 3) := by decide +kernel
theorem d259_7 : decode method_16_code 7 = .ok (.i2l, 1) := by decide +kernel
theorem d259_8 : decode method_16_code 8 = .ok (.lastore, 1) := by decide +kernel
theorem d259_9 : decode method_16_code 9 = .ok (.goto 6, 3) := by decide +kernel
theorem d259_12 : decode method_16_code 12 = .ok (.astore_n 3, 1) := by decide +kernel
theorem d259_13 : decode method_16_code 13 = .ok (.iconst 1, 1) := by decide +kernel
theorem d259_14 : decode method_16_code 14 = .ok (.ireturn, 1) := by decide +kernel
theorem d259_15 : decode method_16_code 15 = .ok (.iconst 0, 1) := by decide +kernel
theorem d259_16 : decode method_16_code 16 = .ok (.ireturn, 1) := by decide +kernel
theorem d260_0 : decode method_17_code 0 = .ok (.aload_n 2, 1) := by decide +kernel
theorem d260_1 : decode method_17_code 1 = .ok (.iconst 0, 1) := by decide +kernel
theorem d260_2 : decode method_17_code 2 = .ok (.aload_n 0, 1) := by decide +kernel
theorem d260_3 : decode method_17_code 3 = .ok (.iload_n 1, 1) := by decide +kernel
theorem d260_4 : decode method_17_code 4 = .ok (.invokevirtual 67, 3) := by decide +kernel
theorem d260_7 : decode method_17_code 7 = .ok (.i2l, 1) := by decide +kernel
theorem d260_8 : decode method_17_code 8 = .ok (.lastore, 1) := by decide +kernel
theorem d260_9 : decode method_17_code 9 = .ok (.goto 6, 3) := by decide +kernel
theorem d260_12 : decode method_17_code 12 = .ok (.astore_n 3, 1) := by decide +kernel
theorem d260_13 : decode method_17_code 13 = .ok (.iconst 1, 1) := by decide +kernel
theorem d260_14 : decode method_17_code 14 = .ok (.ireturn, 1) := by decide +kernel
theorem d260_15 : decode method_17_code 15 = .ok (.iconst 0, 1) := by decide +kernel
theorem d260_16 : decode method_17_code 16 = .ok (.ireturn, 1) := by decide +kernel
theorem d261_0 : decode method_18_code 0 = .ok (.aload_n 2, 1) := by decide +kernel
theorem d261_1 : decode method_18_code 1 = .ok (.iconst 0, 1) := by decide +kernel
theorem d261_2 : decode method_18_code 2 = .ok (.aload_n 0, 1) := by decide +kernel
theorem d261_3 : decode method_18_code 3 = .ok (.iload_n 1, 1) := by decide +kernel
theorem d261_4 : decode method_18_code 4 = .ok (.invokevirtual 70, 3) := by decide +kernel
theorem d261_7 : decode method_18_code 7 = .ok (.i2l, 1) := by decide +kernel
theorem d261_8 : decode method_18_code 8 = .ok (.lastore, 1) := by decide +kernel
theorem d261_9 : decode method_18_code 9 = .ok (.goto 6, 3) := by decide +kernel
theorem d261_12 : decode method_18_code 12 = .ok (.astore_n 3, 1) := by decide +kernel
theorem d261_13 : decode method_18_code 13 = .ok (.iconst 1, 1) := by decide +kernel
theorem d261_14 : decode method_18_code 14 = .ok (.ireturn, 1) := by decide +kernel
theorem d261_15 : decode method_18_code 15 = .ok (.iconst 0, 1) := by decide +kernel
theorem d261_16 : decode method_18_code 16 = .ok (.ireturn, 1) := by decide +kernel
theorem d262_0 : decode method_19_code 0 = .ok (.aload_n 2, 1) := by decide +kernel
theorem d262_1 : decode method_19_code 1 = .ok (.iconst 0, 1) := by decide +kernel
theorem d262_2 : decode method_19_code 2 = .ok (.aload_n 0, 1) := by decide +kernel
theorem d262_3 : decode method_19_code 3 = .ok (.iload_n 1, 1) := by decide +kernel
theorem d262_4 : decode method_19_code 4 = .ok (.invokevirtual 73, 3) := by decide +kernel
theorem d262_7 : decode method_19_code 7 = .ok (.i2l, 1) := by decide +kernel
theorem d262_8 : decode method_19_code 8 = .ok (.lastore, 1) := by decide +kernel
theorem d262_9 : decode method_19_code 9 = .ok (.goto 6, 3) := by decide +kernel
theorem d262_12 : decode method_19_code 12 = .ok (.astore_n 3, 1) := by decide +kernel
theorem d262_13 : decode method_19_code 13 = .ok (.iconst 1, 1) := by decide +kernel
theorem d262_14 : decode method_19_code 14 = .ok (.ireturn, 1) := by decide +kernel
theorem d262_15 : decode method_19_code 15 = .ok (.iconst 0, 1) := by decide +kernel
theorem d262_16 : decode method_19_code 16 = .ok (.ireturn, 1) := by decide +kernel
theorem d263_0 : decode method_20_code 0 = .ok (.aload_n 3, 1) := by decide +kernel
theorem d263_1 : decode method_20_code 1 = .ok (.iconst 0, 1) := by decide +kernel
theorem d263_2 : decode method_20_code 2 = .ok (.aload_n 0, 1) := by decide +kernel
theorem d263_3 : decode method_20_code 3 = .ok (.iload_n 1, 1) := by decide +kernel
theorem d263_4 : decode method_20_code 4 = .ok (.iload_n 2, 1) := by decide +kernel
theorem d263_5 : decode method_20_code 5 = .ok (.invokevirtual 77, 3) := by decide +kernel
theorem d263_8 : decode method_20_code 8 = .ok (.i2l, 1) := by decide +kernel
theorem d263_9 : decode method_20_code 9 = .ok (.lastore, 1) := by decide +kernel
theorem d263_10 : decode method_20_code 10 = .ok (.goto 11, 3) := by decide +kernel
theorem d263_13 : decode method_20_code 13 = .ok (.astore 4, 2) := by decide +kernel
theorem d263_15 : decode method_20_code 15 = .ok (.iconst 1, 1) := by decide +kernel
theorem d263_16 : decode method_20_code 16 = .ok (.ireturn, 1) := by decide +kernel
theorem d263_17 : decode method_20_code 17 = .ok (.astore 4, 2) := by decide +kernel
theorem d263_19 : decode method_20_code 19 = .ok (.iconst 2, 1) := by decide +kernel
theorem d263_20 : decode method_20_code 20 = .ok (.ireturn, 1) := by decide +kernel
theorem d263_21 : decode method_20_code 21 = .ok (.iconst 0, 1) := by decide +kernel
theorem d263_22 : decode method_20_code 22 = .ok (.ireturn, 1) := by decide +kernel
theorem d264_0 : decode method_21_code 0 = .ok (.aload_n 2, 1) := by decide +kernel
theorem d264_1 : decode method_21_code 1 = .ok (.iconst 0, 1) := by decide +kernel
theorem d264_2 : decode method_21_code 2 = .ok (.aload_n 0, 1) := by decide +kernel
theorem d264_3 : decode method_21_code 3 = .ok (.iload_n 1, 1) := by decide +kernel
theorem d264_4 : decode method_21_code 4 = .ok (.invokevirtual 81, 3) := by decide +kernel
theorem d264_7 : decode method_21_code 7 = .ok (.i2l, 1) := by decide +kernel
theorem d264_8 : decode method_21_code 8 = .ok (.lastore, 1) := by decide +kernel
theorem d264_9 : decode method_21_code 9 = .ok (.goto 6, 3) := by decide +kernel
theorem d264_12 : decode method_21_code 12 = .ok (.astore_n 3, 1) := by decide +kernel
theorem d264_13 : decode method_21_code 13 = .ok (.iconst 1, 1) := by decide +kernel
theorem d264_14 : decode method_21_code 14 = .ok (.ireturn, 1) := by decide +kernel
theorem d264_15 : decode method_21_code 15 = .ok (.iconst 0, 1) := by decide +kernel
theorem d264_16 : decode method_21_code 16 = .ok (.ireturn, 1) := by decide +kernel
theorem d265_0 : decode method_22_code 0 = .ok (.aload_n 2, 1) := by decide +kernel
theorem d265_1 : decode method_22_code 1 = .ok (.iconst 0, 1) := by decide +kernel
theorem d265_2 : decode method_22_code 2 = .ok (.aload_n 0, 1) := by decide +kernel
theorem d265_3 : decode method_22_code 3 = .ok (.iload_n 1, 1) := by decide +kernel
theorem d265_4 : decode method_22_code 4 = .ok (.invokevirtual 84, 3) := by decide +kernel
theorem d265_7 : decode method_22_code 7 = .ok (.i2l, 1) := by decide +kernel
theorem d265_8 : decode method_22_code 8 = .ok (.lastore, 1) := by decide +kernel
theorem d265_9 : decode method_22_code 9 = .ok (.goto 9, 3) := by decide +kernel
theorem d265_12 : decode method_22_code 12 = .ok (.astore_n 3, 1) := by decide +kernel
theorem d265_13 : decode method_22_code 13 = .ok (.iconst 1, 1) := by decide +kernel
theorem d265_14 : decode method_22_code 14 = .ok (.ireturn, 1) := by decide +kernel
theorem d265_15 : decode method_22_code 15 = .ok (.astore_n 3, 1) := by decide +kernel
theorem d265_16 : decode method_22_code 16 = .ok (.iconst 2, 1) := by decide +kernel
theorem d265_17 : decode method_22_code 17 = .ok (.ireturn, 1) := by decide +kernel
theorem d265_18 : decode method_22_code 18 = .ok (.iconst 0, 1) := by decide +kernel
theorem d265_19 : decode method_22_code 19 = .ok (.ireturn, 1) := by decide +kernel
theorem d266_0 : decode method_23_code 0 = .ok (.aload_n 2, 1) := by decide +kernel
theorem d266_1 : decode method_23_code 1 = .ok (.iconst 0, 1) := by decide +kernel
theorem d266_2 : decode method_23_code 2 = .ok (.aload_n 0, 1) := by decide +kernel
theorem d266_3 : decode method_23_code 3 = .ok (.iload_n 1, 1) := by decide +kernel
theorem d266_4 : decode method_23_code 4 = .ok (.invokevirtual 87, 3) := by decide +kernel
theorem d266_7 : decode method_23_code 7 = .ok (.i2l, 1) := by decide +kernel
theorem d266_8 : decode method_23_code 8 = .ok (.lastore, 1) := by decide +kernel
theorem d266_9 : decode method_23_code 9 = .ok (.goto 6, 3) := by decide +kernel
theorem d266_12 : decode method_23_code 12 = .ok (.astore_n 3, 1) := by decide +kernel
theorem d266_13 : decode method_23_code 13 = .ok (.iconst 1, 1) := by decide +kernel
theorem d266_14 : decode method_23_code 14 = .ok (.ireturn, 1) := by decide +kernel
theorem d266_15 : decode method_23_code 15 = .ok (.iconst 0, 1) := by decide +kernel
theorem d266_16 : decode method_23_code 16 = .ok (.ireturn, 1) := by decide +kernel
theorem d267_0 : decode method_24_code 0 = .ok (.aload_n 2, 1) := by decide +kernel
theorem d267_1 : decode method_24_code 1 = .ok (.iconst 0, 1) := by decide +kernel
theorem d267_2 : decode method_24_code 2 = .ok (.aload_n 0, 1) := by decide +kernel
theorem d267_3 : decode method_24_code 3 = .ok (.iload_n 1, 1) := by decide +kernel
theorem d267_4 : decode method_24_code 4 = .ok (.invokevirtual 90, 3) := by decide +kernel
theorem d267_7 : decode method_24_code 7 = .ok (.i2l, 1) := by decide +kernel
theorem d267_8 : decode method_24_code 8 = .ok (.lastore, 1) := by decide +kernel
theorem d267_9 : decode method_24_code 9 = .ok (.goto 6, 3) := by decide +kernel
theorem d267_12 : decode method_24_code 12 = .ok (.astore_n 3, 1) := by decide +kernel
theorem d267_13 : decode method_24_code 13 = .ok (.iconst 1, 1) := by decide +kernel
theorem d267_14 : decode method_24_code 14 = .ok (.ireturn, 1) := by decide +kernel
theorem d267_15 : decode method_24_code 15 = .ok (.iconst 0, 1) := by decide +kernel
theorem d267_16 : decode method_24_code 16 = .ok (.ireturn, 1) := by decide +kernel
theorem d268_0 : decode method_25_code 0 = .ok (.aload_n 2, 1) := by decide +kernel
theorem d268_1 : decode method_25_code 1 = .ok (.iconst 0, 1) := by decide +kernel
theorem d268_2 : decode method_25_code 2 = .ok (.aload_n 0, 1) := by decide +kernel
theorem d268_3 : decode method_25_code 3 = .ok (.iload_n 1, 1) := by decide +kernel
theorem d268_4 : decode method_25_code 4 = .ok (.invokevirtual 93, 3) := by decide +kernel
theorem d268_7 : decode method_25_code 7 = .ok (.i2l, 1) := by decide +kernel
theorem d268_8 : decode method_25_code 8 = .ok (.lastore, 1) := by decide +kernel
theorem d268_9 : decode method_25_code 9 = .ok (.goto 6, 3) := by decide +kernel
theorem d268_12 : decode method_25_code 12 = .ok (.astore_n 3, 1) := by decide +kernel
theorem d268_13 : decode method_25_code 13 = .ok (.iconst 1, 1) := by decide +kernel
theorem d268_14 : decode method_25_code 14 = .ok (.ireturn, 1) := by decide +kernel
theorem d268_15 : decode method_25_code 15 = .ok (.iconst 0, 1) := by decide +kernel
theorem d268_16 : decode method_25_code 16 = .ok (.ireturn, 1) := by decide +kernel
theorem d269_0 : decode method_26_code 0 = .ok (.aload_n 2, 1) := by decide +kernel
theorem d269_1 : decode method_26_code 1 = .ok (.iconst 0, 1) := by decide +kernel
theorem d269_2 : decode method_26_code 2 = .ok (.aload_n 0, 1) := by decide +kernel
theorem d269_3 : decode method_26_code 3 = .ok (.iload_n 1, 1) := by decide +kernel
theorem d269_4 : decode method_26_code 4 = .ok (.invokevirtual 96, 3) := by decide +kernel
theorem d269_7 : decode method_26_code 7 = .ok (.ifCond .eq 7, 3) := by decide +kernel
theorem d269_10 : decode method_26_code 10 = .ok (.lconst 1, 1) := by decide +kernel
theorem d269_11 : decode method_26_code 11 = .ok (.goto 4, 3) := by decide +kernel
theorem d269_14 : decode method_26_code 14 = .ok (.lconst 0, 1) := by decide +kernel
theorem d269_15 : decode method_26_code 15 = .ok (.lastore, 1) := by decide +kernel
theorem d269_16 : decode method_26_code 16 = .ok (.goto 6, 3) := by decide +kernel
theorem d269_19 : decode method_26_code 19 = .ok (.astore_n 3, 1) := by decide +kernel
theorem d269_20 : decode method_26_code 20 = .ok (.iconst 1, 1) := by decide +kernel
theorem d269_21 : decode method_26_code 21 = .ok (.ireturn, 1) := by decide +kernel
theorem d269_22 : decode method_26_code 22 = .ok (.iconst 0, 1) := by decide +kernel
theorem d269_23 : decode method_26_code 23 = .ok (.ireturn, 1) := by decide +kernel
theorem d270_0 : decode method_27_code 0 = .ok (.aload_n 2, 1) := by decide +kernel
theorem d270_1 : decode method_27_code 1 = .ok (.iconst 0, 1) := by decide +kernel
theorem d270_2 : decode method_27_code 2 = .ok (.aload_n 0, 1) := by decide +kernel
theorem d270_3 : decode method_27_code 3 = .ok (.iload_n 1, 1) := by decide +kernel
theorem d270_4 : decode method_27_code 4 = .ok (.invokevirtual 100, 3) := by decide +kernel
theorem d270_7 : decode method_27_code 7 = .ok (.i2l, 1) := by decide +kernel
theorem d270_8 : decode method_27_code 8 = .ok (.lastore, 1) := by decide +kernel
theorem d270_9 : decode method_27_code 9 = .ok (.goto 6, 3) := by decide +kernel
theorem d270_12 : decode method_27_code 12 = .ok (.astore_n 3, 1) := by decide +kernel
theorem d270_13 : decode method_27_code 13 = .ok (.iconst 1, 1) := by decide +kernel
theorem d270_14 : decode method_27_code 14 = .ok (.ireturn, 1) := by decide +kernel
theorem d270_15 : decode method_27_code 15 = .ok (.iconst 0, 1) := by decide +kernel
theorem d270_16 : decode method_27_code 16 = .ok (.ireturn, 1) := by decide +kernel
theorem d271_0 : decode method_28_code 0 = .ok (.aload_n 3, 1) := by decide +kernel
theorem d271_1 : decode method_28_code 1 = .ok (.iconst 0, 1) := by decide +kernel
theorem d271_2 : decode method_28_code 2 = .ok (.aload_n 0, 1) := by decide +kernel
theorem d271_3 : decode method_28_code 3 = .ok (.iload_n 1, 1) := by decide +kernel
theorem d271_4 : decode method_28_code 4 = .ok (.iload_n 2, 1) := by decide +kernel
theorem d271_5 : decode method_28_code 5 = .ok (.invokevirtual 103, 3) := by decide +kernel
theorem d271_8 : decode method_28_code 8 = .ok (.ifCond .eq 7, 3) := by decide +kernel
theorem d271_11 : decode method_28_code 11 = .ok (.lconst 1, 1) := by decide +kernel
theorem d271_12 : decode method_28_code 12 = .ok (.goto 4, 3) := by decide +kernel
theorem d271_15 : decode method_28_code 15 = .ok (.lconst 0, 1) := by decide +kernel
theorem d271_16 : decode method_28_code 16 = .ok (.lastore, 1) := by decide +kernel
theorem d271_17 : decode method_28_code 17 = .ok (.goto 11, 3) := by decide +kernel
theorem d271_20 : decode method_28_code 20 = .ok (.astore 4, 2) := by decide +kernel
theorem d271_22 : decode method_28_code 22 = .ok (.iconst 1, 1) := by decide +kernel
theorem d271_23 : decode method_28_code 23 = .ok (.ireturn, 1) := by decide +kernel
theorem d271_24 : decode method_28_code 24 = .ok (.astore 4, 2) := by decide +kernel
theorem d271_26 : decode method_28_code 26 = .ok (.iconst 2, 1) := by decide +kernel
theorem d271_27 : decode method_28_code 27 = .ok (.ireturn, 1) := by decide +kernel
theorem d271_28 : decode method_28_code 28 = .ok (.iconst 0, 1) := by decide +kernel
theorem d271_29 : decode method_28_code 29 = .ok (.ireturn, 1) := by decide +kernel
theorem d272_0 : decode method_29_code 0 = .ok (.aload_n 3, 1) := by decide +kernel
theorem d272_1 : decode method_29_code 1 = .ok (.iconst 0, 1) := by decide +kernel
theorem d272_2 : decode method_29_code 2 = .ok (.aload_n 0, 1) := by decide +kernel
theorem d272_3 : decode method_29_code 3 = .ok (.iload_n 1, 1) := by decide +kernel
theorem d272_4 : decode method_29_code 4 = .ok (.iload_n 2, 1) := by decide +kernel
theorem d272_5 : decode method_29_code 5 = .ok (.invokevirtual 107, 3) := by decide +kernel
theorem d272_8 : decode method_29_code 8 = .ok (.i2l, 1) := by decide +kernel
theorem d272_9 : decode method_29_code 9 = .ok (.lastore, 1) := by decide +kernel
theorem d272_10 : decode method_29_code 10 = .ok (.goto 11, 3) := by decide +kernel
theorem d272_13 : decode method_29_code 13 = .ok (.astore 4, 2) := by decide +kernel
theorem d272_15 : decode method_29_code 15 = .ok (.iconst 1, 1) := by decide +kernel
theorem d272_16 : decode method_29_code 16 = .ok (.ireturn, 1) := by decide +kernel
theorem d272_17 : decode method_29_code 17 = .ok (.astore 4, 2) := by decide +kernel
theorem d272_19 : decode method_29_code 19 = .ok (.iconst 2, 1) := by decide +kernel
theorem d272_20 : decode method_29_code 20 = .ok (.ireturn, 1) := by decide +kernel
theorem d272_21 : decode method_29_code 21 = .ok (.iconst 0, 1) := by decide +kernel
theorem d272_22 : decode method_29_code 22 = .ok (.ireturn, 1) := by decide +kernel
theorem d273_0 : decode method_30_code 0 = .ok (.aload_n 2, 1) := by decide +kernel
theorem d273_1 : decode method_30_code 1 = .ok (.iconst 0, 1) := by decide +kernel
theorem d273_2 : decode method_30_code 2 = .ok (.aload_n 0, 1) := by decide +kernel
theorem d273_3 : decode method_30_code 3 = .ok (.iload_n 1, 1) := by decide +kernel
theorem d273_4 : decode method_30_code 4 = .ok (.invokevirtual 110, 3) := by decide +kernel
theorem d273_7 : decode method_30_code 7 = .ok (.i2l, 1) := by decide +kernel
theorem d273_8 : decode method_30_code 8 = .ok (.lastore, 1) := by decide +kernel
theorem d273_9 : decode method_30_code 9 = .ok (.goto 6, 3) := by decide +kernel
theorem d273_12 : decode method_30_code 12 = .ok (.astore_n 3, 1) := by decide +kernel
theorem d273_13 : decode method_30_code 13 = .ok (.iconst 1, 1) := by decide +kernel
theorem d273_14 : decode method_30_code 14 = .ok (.ireturn, 1) := by decide +kernel
theorem d273_15 : decode method_30_code 15 = .ok (.iconst 0, 1) := by decide +kernel
theorem d273_16 : decode method_30_code 16 = .ok (.ireturn, 1) := by decide +kernel
theorem d274_0 : decode method_31_code 0 = .ok (.aload_n 2, 1) := by decide +kernel
theorem d274_1 : decode method_31_code 1 = .ok (.iconst 0, 1) := by decide +kernel
theorem d274_2 : decode method_31_code 2 = .ok (.aload_n 0, 1) := by decide +kernel
theorem d274_3 : decode method_31_code 3 = .ok (.iload_n 1, 1) := by decide +kernel
theorem d274_4 : decode method_31_code 4 = .ok (.invokevirtual 113, 3) := by decide +kernel
theorem d274_7 : decode method_31_code 7 = .ok (.i2l, 1) := by decide +kernel
theorem d274_8 : decode method_31_code 8 = .ok (.lastore, 1) := by decide +kernel
theorem d274_9 : decode method_31_code 9 = .ok (.goto 6, 3) := by decide +kernel
theorem d274_12 : decode method_31_code 12 = .ok (.astore_n 3, 1) := by decide +kernel
theorem d274_13 : decode method_31_code 13 = .ok (.iconst 1, 1) := by decide +kernel
theorem d274_14 : decode method_31_code 14 = .ok (.ireturn, 1) := by decide +kernel
theorem d274_15 : decode method_31_code 15 = .ok (.iconst 0, 1) := by decide +kernel
theorem d274_16 : decode method_31_code 16 = .ok (.ireturn, 1) := by decide +kernel
theorem d275_0 : decode method_32_code 0 = .ok (.aload_n 2, 1) := by decide +kernel
theorem d275_1 : decode method_32_code 1 = .ok (.iconst 0, 1) := by decide +kernel
theorem d275_2 : decode method_32_code 2 = .ok (.aload_n 0, 1) := by decide +kernel
theorem d275_3 : decode method_32_code 3 = .ok (.iload_n 1, 1) := by decide +kernel
theorem d275_4 : decode method_32_code 4 = .ok (.invokevirtual 116, 3) := by decide +kernel
theorem d275_7 : decode method_32_code 7 = .ok (.i2l, 1) := by decide +kernel
theorem d275_8 : decode method_32_code 8 = .ok (.lastore, 1) := by decide +kernel
theorem d275_9 : decode method_32_code 9 = .ok (.goto 6, 3) := by decide +kernel
theorem d275_12 : decode method_32_code 12 = .ok (.astore_n 3, 1) := by decide +kernel
theorem d275_13 : decode method_32_code 13 = .ok (.iconst 1, 1) := by decide +kernel
theorem d275_14 : decode method_32_code 14 = .ok (.ireturn, 1) := by decide +kernel
theorem d275_15 : decode method_32_code 15 = .ok (.iconst 0, 1) := by decide +kernel
theorem d275_16 : decode method_32_code 16 = .ok (.ireturn, 1) := by decide +kernel
theorem d276_0 : decode method_33_code 0 = .ok (.aload_n 3, 1) := by decide +kernel
theorem d276_1 : decode method_33_code 1 = .ok (.iconst 0, 1) := by decide +kernel
theorem d276_2 : decode method_33_code 2 = .ok (.aload_n 0, 1) := by decide +kernel
theorem d276_3 : decode method_33_code 3 = .ok (.iload_n 1, 1) := by decide +kernel
theorem d276_4 : decode method_33_code 4 = .ok (.iload_n 2, 1) := by decide +kernel
theorem d276_5 : decode method_33_code 5 = .ok (.invokevirtual 119, 3) := by decide +kernel
theorem d276_8 : decode method_33_code 8 = .ok (.i2l, 1) := by decide +kernel
theorem d276_9 : decode method_33_code 9 = .ok (.lastore, 1) := by decide +kernel
theorem d276_10 : decode method_33_code 10 = .ok (.goto 11, 3) := by decide +kernel
theorem d276_13 : decode method_33_code 13 = .ok (.astore 4, 2) := by decide +kernel
theorem d276_15 : decode method_33_code 15 = .ok (.iconst 1, 1) := by decide +kernel
theorem d276_16 : decode method_33_code 16 = .ok (.ireturn, 1) := by decide +kernel
theorem d276_17 : decode method_33_code 17 = .ok (.astore 4, 2) := by decide +kernel
theorem d276_19 : decode method_33_code 19 = .ok (.iconst 2, 1) := by decide +kernel
theorem d276_20 : decode method_33_code 20 = .ok (.ireturn, 1) := by decide +kernel
theorem d276_21 : decode method_33_code 21 = .ok (.iconst 0, 1) := by decide +kernel
theorem d276_22 : decode method_33_code 22 = .ok (.ireturn, 1) := by decide +kernel
theorem d277_0 : decode method_34_code 0 = .ok (.aload_n 2, 1) := by decide +kernel
theorem d277_1 : decode method_34_code 1 = .ok (.iconst 0, 1) := by decide +kernel
theorem d277_2 : decode method_34_code 2 = .ok (.aload_n 0, 1) := by decide +kernel
theorem d277_3 : decode method_34_code 3 = .ok (.iload_n 1, 1) := by decide +kernel
theorem d277_4 : decode method_34_code 4 = .ok (.invokevirtual 122, 3) := by decide +kernel
theorem d277_7 : decode method_34_code 7 = .ok (.i2l, 1) := by decide +kernel
theorem d277_8 : decode method_34_code 8 = .ok (.lastore, 1) := by decide +kernel
theorem d277_9 : decode method_34_code 9 = .ok (.goto 6, 3) := by decide +kernel
theorem d277_12 : decode method_34_code 12 = .ok (.astore_n 3, 1) := by decide +kernel
theorem d277_13 : decode method_34_code 13 = .ok (.iconst 1, 1) := by decide +kernel
theorem d277_14 : decode method_34_code 14 = .ok (.ireturn, 1) := by decide +kernel
theorem d277_15 : decode method_34_code 15 = .ok (.iconst 0, 1) := by decide +kernel
theorem d277_16 : decode method_34_code 16 = .ok (.ireturn, 1) := by decide +kernel
theorem d278_0 : decode method_35_code 0 = .ok (.aload_n 1, 1) := by decide +kernel
theorem d278_1 : decode method_35_code 1 = .ok (.iconst 0, 1) := by decide +kernel
theorem d278_2 : decode method_35_code 2 = .ok (.aload_n 0, 1) := by decide +kernel
theorem d278_3 : decode method_35_code 3 = .ok (.invokevirtual 125, 3) := by decide +kernel
theorem d278_6 : decode method_35_code 6 = .ok (.dastore, 1) := by decide +kernel
theorem d278_7 : decode method_35_code 7 = .ok (.goto 6, 3) := by decide +kernel
theorem d278_10 : decode method_35_code 10 = .ok (.astore_n 2, 1) := by decide +kernel
theorem d278_11 : decode method_35_code 11 = .ok (.iconst 1, 1) := by decide +kernel
theorem d278_12 : decode method_35_code 12 = .ok (.ireturn, 1) := by decide +kernel
theorem d278_13 : decode method_35_code 13 = .ok (.iconst 0, 1) := by decide +kernel
theorem d278_14 : decode method_35_code 14 = .ok (.ireturn, 1) := by decide +kernel
theorem d279_0 : decode method_36_code 0 = .ok (.aload_n 2, 1) := by decide +kernel
theorem d279_1 : decode method_36_code 1 = .ok (.iconst 0, 1) := by decide +kernel
theorem d279_2 : decode method_36_code 2 = .ok (.aload_n 0, 1) := by decide +kernel
theorem d279_3 : decode method_36_code 3 = .ok (.iload_n 1, 1) := by decide +kernel
theorem d279_4 : decode method_36_code 4 = .ok (.invokevirtual 131, 3) := by decide +kernel
theorem d279_7 : decode method_36_code 7 = .ok (.i2l, 1) := by decide +kernel
theorem d279_8 : decode method_36_code 8 = .ok (.lastore, 1) := by decide +kernel
theorem d279_9 : decode method_36_code 9 = .ok (.goto 6, 3) := by decide +kernel
theorem d279_12 : decode method_36_code 12 = .ok (.astore_n 3, 1) := by decide +kernel
theorem d279_13 : decode method_36_code 13 = .ok (.iconst 1, 1) := by decide +kernel
theorem d279_14 : decode method_36_code 14 = .ok (.ireturn, 1) := by decide +kernel
theorem d279_15 : decode method_36_code 15 = .ok (.iconst 0, 1) := by decide +kernel
theorem d279_16 : decode method_36_code 16 = .ok (.ireturn, 1) := by decide +kernel
theorem d280_0 : decode method_37_code 0 = .ok (.aload_n 2, 1) := by decide +kernel
theorem d280_1 : decode method_37_code 1 = .ok (.iconst 0, 1) := by decide +kernel
theorem d280_2 : decode method_37_code 2 = .ok (.aload_n 0, 1) := by decide +kernel
theorem d280_3 : decode method_37_code 3 = .ok (.iload_n 1, 1) := by decide +kernel
theorem d280_4 : decode method_37_code 4 = .ok (.invokevirtual 134, 3) := by decide +kernel
theorem d280_7 : decode method_37_code 7 = .ok (.i2l, 1) := by decide +kernel
theorem d280_8 : decode method_37_code 8 = .ok (.lastore, 1) := by decide +kernel
theorem d280_9 : decode method_37_code 9 = .ok (.goto 6, 3) := by decide +kernel
theorem d280_12 : decode method_37_code 12 = .ok (.astore_n 3, 1) := by decide +kernel
theorem d280_13 : decode method_37_code 13 = .ok (.iconst 1, 1) := by decide +kernel
theorem d280_14 : decode method_37_code 14 = .ok (.ireturn, 1) := by decide +kernel
theorem d280_15 : decode method_37_code 15 = .ok (.iconst 0, 1) := by decide +kernel
theorem d280_16 : decode method_37_code 16 = .ok (.ireturn, 1) := by decide +kernel
theorem d281_0 : decode method_38_code 0 = .ok (.aload_n 2, 1) := by decide +kernel
theorem d281_1 : decode method_38_code 1 = .ok (.iconst 0, 1) := by decide +kernel
theorem d281_2 : decode method_38_code 2 = .ok (.aload_n 0, 1) := by decide +kernel
theorem d281_3 : decode method_38_code 3 = .ok (.iload_n 1, 1) := by decide +kernel
theorem d281_4 : decode method_38_code 4 = .ok (.invokevirtual 137, 3) := by decide +kernel
theorem d281_7 : decode method_38_code 7 = .ok (.i2l, 1) := by decide +kernel
theorem d281_8 : decode method_38_code 8 = .ok (.lastore, 1) := by decide +kernel
theorem d281_9 : decode method_38_code 9 = .ok (.goto 6, 3) := by decide +kernel
theorem d281_12 : decode method_38_code 12 = .ok (.astore_n 3, 1) := by decide +kernel
theorem d281_13 : decode method_38_code 13 = .ok (.iconst 1, 1) := by decide +kernel
theorem d281_14 : decode method_38_code 14 = .ok (.ireturn, 1) := by decide +kernel
theorem d281_15 : decode method_38_code 15 = .ok (.iconst 0, 1) := by decide +kernel
theorem d281_16 : decode method_38_code 16 = .ok (.ireturn, 1) := by decide +kernel
theorem d282_0 : decode method_39_code 0 = .ok (.aload_n 2, 1) := by decide +kernel
theorem d282_1 : decode method_39_code 1 = .ok (.iconst 0, 1) := by decide +kernel
theorem d282_2 : decode method_39_code 2 = .ok (.aload_n 0, 1) := by decide +kernel
theorem d282_3 : decode method_39_code 3 = .ok (.iload_n 1, 1) := by decide +kernel
theorem d282_4 : decode method_39_code 4 = .ok (.invokevirtual 140, 3) := by decide +kernel
theorem d282_7 : decode method_39_code 7 = .ok (.i2l, 1) := by decide +kernel
theorem d282_8 : decode method_39_code 8 = .ok (.lastore, 1) := by decide +kernel
theorem d282_9 : decode method_39_code 9 = .ok (.goto 6, 3) := by decide +kernel
theorem d282_12 : decode method_39_code 12 = .ok (.astore_n 3, 1) := by decide +kernel
theorem d282_13 : decode method_39_code 13 = .ok (.iconst 1, 1) := by decide +kernel
theorem d282_14 : decode method_39_code 14 = .ok (.ireturn, 1) := by decide +kernel
theorem d282_15 : decode method_39_code 15 = .ok (.iconst 0, 1) := by decide +kernel
theorem d282_16 : decode method_39_code 16 = .ok (.ireturn, 1) := by decide +kernel
theorem d283_0 : decode method_40_code 0 = .ok (.aload_n 2, 1) := by decide +kernel
theorem d283_1 : decode method_40_code 1 = .ok (.iconst 0, 1) := by decide +kernel
theorem d283_2 : decode method_40_code 2 = .ok (.aload_n 0, 1) := by decide +kernel
theorem d283_3 : decode method_40_code 3 = .ok (.iload_n 1, 1) := by decide +kernel
theorem d283_4 : decode method_40_code 4 = .ok (.invokevirtual 143, 3) := by decide +kernel
theorem d283_7 : decode method_40_code 7 = .ok (.i2l, 1) := by decide +kernel
theorem d283_8 : decode method_40_code 8 = .ok (.lastore, 1) := by decide +kernel
theorem d283_9 : decode method_40_code 9 = .ok (.goto 6, 3) := by decide +kernel
theorem d283_12 : decode method_40_code 12 = .ok (.astore_n 3, 1) := by decide +kernel
theorem d283_13 : decode method_40_code 13 = .ok (.iconst 1, 1) := by decide +kernel
theorem d283_14 : decode method_40_code 14 = .ok (.ireturn, 1) := by decide +kernel
theorem d283_15 : decode method_40_code 15 = .ok (.iconst 0, 1) := by decide +kernel
theorem d283_16 : decode method_40_code 16 = .ok (.ireturn, 1) := by decide +kernel
theorem d284_0 : decode method_41_code 0 = .ok (.aload_n 1, 1) := by decide +kernel
theorem d284_1 : decode method_41_code 1 = .ok (.iconst 0, 1) := by decide +kernel
theorem d284_2 : decode method_41_code 2 = .ok (.aload_n 0, 1) := by decide +kernel
theorem d284_3 : decode method_41_code 3 = .ok (.invokevirtual 146, 3) := by decide +kernel
theorem d284_6 : decode method_41_code 6 = .ok (.i2l, 1) := by decide +kernel
theorem d284_7 : decode method_41_code 7 = .ok (.lastore, 1) := by decide +kernel
theorem d284_8 : decode method_41_code 8 = .ok (.goto 9, 3) := by decide +kernel
theorem d284_11 : decode method_41_code 11 = .ok (.astore_n 2, 1) := by decide +kernel
theorem d284_12 : decode method_41_code 12 = .ok (.iconst 1, 1) := by decide +kernel
theorem d284_13 : decode method_41_code 13 = .ok (.ireturn, 1) := by decide +kernel
theorem d284_14 : decode method_41_code 14 = .ok (.astore_n 2, 1) := by decide +kernel
theorem d284_15 : decode method_41_code 15 = .ok (.iconst 2, 1) := by decide +kernel
theorem d284_16 : decode method_41_code 16 = .ok (.ireturn, 1) := by decide +kernel
theorem d284_17 : decode method_41_code 17 = .ok (.iconst 0, 1) := by decide +kernel
theorem d284_18 : decode method_41_code 18 = .ok (.ireturn, 1) := by decide +kernel
theorem d285_0 : decode method_42_code 0 = .ok (.aload_n 1, 1) := by decide +kernel
theorem d285_1 : decode method_42_code 1 = .ok (.iconst 0, 1) := by decide +kernel
theorem d285_2 : decode method_42_code 2 = .ok (.aload_n 0, 1) := by decide +kernel
theorem d285_3 : decode method_42_code 3 = .ok (.invokevirtual 150, 3) := by decide +kernel
theorem d285_6 : decode method_42_code 6 = .ok (.i2l, 1) := by decide +kernel
theorem d285_7 : decode method_42_code 7 = .ok (.lastore, 1) := by decide +kernel
theorem d285_8 : decode method_42_code 8 = .ok (.goto 6, 3) := by decide +kernel
theorem d285_11 : decode method_42_code 11 = .ok (.astore_n 2, 1) := by decide +kernel
theorem d285_12 : decode method_42_code 12 = .ok (.iconst 1, 1) := by decide +kernel
theorem d285_13 : decode method_42_code 13 = .ok (.ireturn, 1) := by decide +kernel
theorem d285_14 : decode method_42_code 14 = .ok (.iconst 0, 1) := by decide +kernel
theorem d285_15 : decode method_42_code 15 = .ok (.ireturn, 1) := by decide +kernel
theorem d286_0 : decode method_43_code 0 = .ok (.aload_n 1, 1) := by decide +kernel
theorem d286_1 : decode method_43_code 1 = .ok (.iconst 0, 1) := by decide +kernel
theorem d286_2 : decode method_43_code 2 = .ok (.aload_n 0, 1) := by decide +kernel
theorem d286_3 : decode method_43_code 3 = .ok (.invokevirtual 153, 3) := by decide +kernel
theorem d286_6 : decode method_43_code 6 = .ok (.i2l, 1) := by decide +kernel
theorem d286_7 : decode method_43_code 7 = .ok (.lastore, 1) := by decide +kernel
theorem d286_8 : decode method_43_code 8 = .ok (.goto 6, 3) := by decide +kernel
theorem d286_11 : decode method_43_code 11 = .ok (.astore_n 2, 1) := by decide +kernel
theorem d286_12 : decode method_43_code 12 = .ok (.iconst 1, 1) := by decide +kernel
theorem d286_13 : decode method_43_code 13 = .ok (.ireturn, 1) := by decide +kernel
theorem d286_14 : decode method_43_code 14 = .ok (.iconst 0, 1) := by decide +kernel
theorem d286_15 : decode method_43_code 15 = .ok (.ireturn, 1) := by decide +kernel
theorem d287_0 : decode method_44_code 0 = .ok (.aload_n 1, 1) := by decide +kernel
theorem d287_1 : decode method_44_code 1 = .ok (.iconst 0, 1) := by decide +kernel
theorem d287_2 : decode method_44_code 2 = .ok (.aload_n 0, 1) := by decide +kernel
theorem d287_3 : decode method_44_code 3 = .ok (.invokevirtual 156, 3) := by decide +kernel
theorem d287_6 : decode method_44_code 6 = .ok (.i2l, 1) := by decide +kernel
theorem d287_7 : decode method_44_code 7 = .ok (.lastore, 1) := by decide +kernel
theorem d287_8 : decode method_44_code 8 = .ok (.goto 6, 3) := by decide +kernel
theorem d287_11 : decode method_44_code 11 = .ok (.astore_n 2, 1) := by decide +kernel
theorem d287_12 : decode method_44_code 12 = .ok (.iconst 1, 1) := by decide +kernel
theorem d287_13 : decode method_44_code 13 = .ok (.ireturn, 1) := by decide +kernel
theorem d287_14 : decode method_44_code 14 = .ok (.iconst 0, 1) := by decide +kernel
theorem d287_15 : decode method_44_code 15 = .ok (.ireturn, 1) := by decide +kernel
theorem d288_0 : decode method_45_code 0 = .ok (.aload_n 1, 1) := by decide +kernel
theorem d288_1 : decode method_45_code 1 = .ok (.iconst 0, 1) := by decide +kernel
theorem d288_2 : decode method_45_code 2 = .ok (.aload_n 0, 1) := by decide +kernel
theorem d288_3 : decode method_45_code 3 = .ok (.invokevirtual 159, 3) := by decide +kernel
theorem d288_6 : decode method_45_code 6 = .ok (.i2l, 1) := by decide +kernel
theorem d288_7 : decode method_45_code 7 = .ok (.lastore, 1) := by decide +kernel
theorem d288_8 : decode method_45_code 8 = .ok (.goto 6, 3) := by decide +kernel
theorem d288_11 : decode method_45_code 11 = .ok (.astore_n 2, 1) := by decide +kernel
theorem d288_12 : decode method_45_code 12 = .ok (.iconst 1, 1) := by decide +kernel
theorem d288_13 : decode method_45_code 13 = .ok (.ireturn, 1) := by decide +kernel
theorem d288_14 : decode method_45_code 14 = .ok (.iconst 0, 1) := by decide +kernel
theorem d288_15 : decode method_45_code 15 = .ok (.ireturn, 1) := by decide +kernel
theorem d289_0 : decode code 0 = .ok (.new 8, 3) := by decide +kernel
theorem d289_3 : decode code 3 = .ok (.dup, 1) := by decide +kernel
theorem d289_4 : decode code 4 = .ok (.invokespecial 162, 3) := by decide +kernel
theorem d289_7 : decode code 7 = .ok (.astore_n 1, 1) := by decide +kernel
theorem d289_8 : decode code 8 = .ok (.new 163, 3) := by decide +kernel
theorem d289_11 : decode code 11 = .ok (.dup, 1) := by decide +kernel
theorem d289_12 : decode code 12 = .ok (.invokespecial 165, 3) := by decide +kernel
theorem d289_15 : decode code 15 = .ok (.astore_n 2, 1) := by decide +kernel
theorem d289_16 : decode code 16 = .ok (.iconst 1, 1) := by decide +kernel
theorem d289_17 : decode code 17 = .ok (.newarray .long, 2) := by decide +kernel
theorem d289_19 : decode code 19 = .ok (.astore_n 3, 1) := by decide +kernel
theorem d289_20 : decode code 20 = .ok (.iconst 1, 1) := by decide +kernel
theorem d289_21 : decode code 21 = .ok (.newarray .double, 2) := by decide +kernel
theorem d289_23 : decode code 23 = .ok (.astore 4, 2) := by decide +kernel
theorem d289_25 : decode code 25 = .ok (.iconst 0, 1) := by decide +kernel
theorem d289_26 : decode code 26 = .ok (.istore 5, 2) := by decide +kernel
theorem d289_28 : decode code 28 = .ok (.iload 5, 2) := by decide +kernel
theorem d289_30 : decode code 30 = .ok (.aload_n 0, 1) := by decide +kernel
theorem d289_31 : decode code 31 = .ok (.arraylength, 1) := by decide +kernel
theorem d289_32 : decode code 32 = .ok (.bipush 7, 2) := by decide +kernel
theorem d289_34 : decode code 34 = .ok (.isub, 1) := by decide +kernel
theorem d289_35 : decode code 35 = .ok (.if_icmp .gt 2972, 3) := by decide +kernel
theorem d289_38 : decode code 38 = .ok (.aload_n 0, 1) := by decide +kernel
theorem d289_39 : decode code 39 = .ok (.iload 5, 2) := by decide +kernel
theorem d289_41 : decode code 41 = .ok (.iaload, 1) := by decide +kernel
theorem d289_42 : decode code 42 = .ok (.bipush 63, 2) := by decide +kernel
theorem d289_44 : decode code 44 = .ok (.iand, 1) := by decide +kernel
theorem d289_45 : decode code 45 = .ok (.tableswitch 2956 0 50 #[219, 339, 395, 463, 519, 589, 671, 739, 807, 875, 931, 999, 1012, 1037, 1093, 1149, 1205, 1261, 1317, 1375, 1445, 1501, 1557, 1613, 1669, 1725, 1788, 1844, 1919, 1987, 2043, 2099, 2155, 2223, 2279, 2293, 2307, 2320, 2385, 2428, 2484, 2497, 2553, 2609, 2665, 2723, 2767, 2811, 2855, 2899, 2912], 219) := by decide +kernel
theorem d289_264 : decode code 264 = .ok (.aload_n 1, 1) := by decide +kernel
theorem d289_265 : decode code 265 = .ok (.aload_n 0, 1) := by decide +kernel
theorem d289_266 : decode code 266 = .ok (.iload 5, 2) := by decide +kernel
theorem d289_268 : decode code 268 = .ok (.iconst 1, 1) := by decide +kernel
theorem d289_269 : decode code 269 = .ok (.iadd, 1) := by decide +kernel
theorem d289_270 : decode code 270 = .ok (.iaload, 1) := by decide +kernel
theorem d289_271 : decode code 271 = .ok (.aload_n 0, 1) := by decide +kernel
theorem d289_272 : decode code 272 = .ok (.iload 5, 2) := by decide +kernel
theorem d289_274 : decode code 274 = .ok (.iconst 2, 1) := by decide +kernel
theorem d289_275 : decode code 275 = .ok (.iadd, 1) := by decide +kernel
theorem d289_276 : decode code 276 = .ok (.iaload, 1) := by decide +kernel
theorem d289_277 : decode code 277 = .ok (.aload_n 0, 1) := by decide +kernel
theorem d289_278 : decode code 278 = .ok (.iload 5, 2) := by decide +kernel
theorem d289_280 : decode code 280 = .ok (.iconst 3, 1) := by decide +kernel
theorem d289_281 : decode code 281 = .ok (.iadd, 1) := by decide +kernel
theorem d289_282 : decode code 282 = .ok (.iaload, 1) := by decide +kernel
theorem d289_283 : decode code 283 = .ok (.i2c, 1) := by decide +kernel
theorem d289_284 : decode code 284 = .ok (.aload_n 0, 1) := by decide +kernel
theorem d289_285 : decode code 285 = .ok (.iload 5, 2) := by decide +kernel
theorem d289_287 : decode code 287 = .ok (.iconst 4, 1) := by decide +kernel
theorem d289_288 : decode code 288 = .ok (.iadd, 1) := by decide +kernel
theorem d289_289 : decode code 289 = .ok (.iaload, 1) := by decide +kernel
theorem d289_290 : decode code 290 = .ok (.aload_n 0, 1) := by decide +kernel
theorem d289_291 : decode code 291 = .ok (.iload 5, 2) := by decide +kernel
theorem d289_293 : decode code 293 = .ok (.iconst 5, 1) := by decide +kernel
theorem d289_294 : decode code 294 = .ok (.iadd, 1) := by decide +kernel
theorem d289_295 : decode code 295 = .ok (.iaload, 1) := by decide +kernel
theorem d289_296 : decode code 296 = .ok (.aload_n 0, 1) := by decide +kernel
theorem d289_297 : decode code 297 = .ok (.iload 5, 2) := by decide +kernel
theorem d289_299 : decode code 299 = .ok (.bipush 6, 2) := by decide +kernel
theorem d289_301 : decode code 301 = .ok (.iadd, 1) := by decide +kernel
theorem d289_302 : decode code 302 = .ok (.iaload, 1) := by decide +kernel
theorem d289_303 : decode code 303 = .ok (.aload_n 3, 1) := by decide +kernel
theorem d289_304 : decode code 304 = .ok (.invokestatic 166, 3) := by decide +kernel
theorem d289_307 : decode code 307 = .ok (.istore 6, 2) := by decide +kernel
theorem d289_309 : decode code 309 = .ok (.aload_n 2, 1) := by decide +kernel
theorem d289_310 : decode code 310 = .ok (.aload_n 0, 1) := by decide +kernel
theorem d289_311 : decode code 311 = .ok (.iload 5, 2) := by decide +kernel
theorem d289_313 : decode code 313 = .ok (.iconst 1, 1) := by decide +kernel
theorem d289_314 : decode code 314 = .ok (.iadd, 1) := by decide +kernel
theorem d289_315 : decode code 315 = .ok (.iaload, 1) := by decide +kernel
theorem d289_316 : decode code 316 = .ok (.aload_n 0, 1) := by decide +kernel
theorem d289_317 : decode code 317 = .ok (.iload 5, 2) := by decide +kernel
theorem d289_319 : decode code 319 = .ok (.iconst 2, 1) := by decide +kernel
theorem d289_320 : decode code 320 = .ok (.iadd, 1) := by decide +kernel
theorem d289_321 : decode code 321 = .ok (.iaload, 1) := by decide +kernel
theorem d289_322 : decode code 322 = .ok (.aload_n 0, 1) := by decide +kernel
theorem d289_323 : decode code 323 = .ok (.iload 5, 2) := by decide +kernel
theorem d289_325 : decode code 325 = .ok (.iconst 3, 1) := by decide +kernel
theorem d289_326 : decode code 326 = .ok (.iadd, 1) := by decide +kernel
theorem d289_327 : decode code 327 = .ok (.iaload, 1) := by decide +kernel
theorem d289_328 : decode code 328 = .ok (.i2c, 1) := by decide +kernel
theorem d289_329 : decode code 329 = .ok (.aload_n 0, 1) := by decide +kernel
theorem d289_330 : decode code 330 = .ok (.iload 5, 2) := by decide +kernel
theorem d289_332 : decode code 332 = .ok (.iconst 4, 1) := by decide +kernel
theorem d289_333 : decode code 333 = .ok (.iadd, 1) := by decide +kernel
theorem d289_334 : decode code 334 = .ok (.iaload, 1) := by decide +kernel
theorem d289_335 : decode code 335 = .ok (.aload_n 0, 1) := by decide +kernel
theorem d289_336 : decode code 336 = .ok (.iload 5, 2) := by decide +kernel
theorem d289_338 : decode code 338 = .ok (.iconst 5, 1) := by decide +kernel
theorem d289_339 : decode code 339 = .ok (.iadd, 1) := by decide +kernel
theorem d289_340 : decode code 340 = .ok (.iaload, 1) := by decide +kernel
theorem d289_341 : decode code 341 = .ok (.aload_n 0, 1) := by decide +kernel
theorem d289_342 : decode code 342 = .ok (.iload 5, 2) := by decide +kernel
theorem d289_344 : decode code 344 = .ok (.bipush 6, 2) := by decide +kernel
theorem d289_346 : decode code 346 = .ok (.iadd, 1) := by decide +kernel
theorem d289_347 : decode code 347 = .ok (.iaload, 1) := by decide +kernel
theorem d289_348 : decode code 348 = .ok (.invokevirtual 171, 3) := by decide +kernel
theorem d289_351 : decode code 351 = .ok (.istore 7, 2) := by decide +kernel
theorem d289_353 : decode code 353 = .ok (.aload_n 2, 1) := by decide +kernel
theorem d289_354 : decode code 354 = .ok (.invokevirtual 172, 3) := by decide +kernel
theorem d289_357 : decode code 357 = .ok (.iload 6, 2) := by decide +kernel
theorem d289_359 : decode code 359 = .ok (.if_icmp .eq 5, 3) := by decide +kernel
theorem d289_362 : decode code 362 = .ok (.iconst 0, 1) := by decide +kernel
theorem d289_363 : decode code 363 = .ok (.ireturn, 1) := by decide +kernel
theorem d289_364 : decode code 364 = .ok (.iload 6, 2) := by decide +kernel
theorem d289_366 : decode code 366 = .ok (.ifCond .ne 15, 3) := by decide +kernel
theorem d289_369 : decode code 369 = .ok (.aload_n 3, 1) := by decide +kernel
theorem d289_370 : decode code 370 = .ok (.iconst 0, 1) := by decide +kernel
theorem d289_371 : decode code 371 = .ok (.laload, 1) := by decide +kernel
theorem d289_372 : decode code 372 = .ok (.iload 7, 2) := by decide +kernel
theorem d289_374 : decode code 374 = .ok (.i2l, 1) := by decide +kernel
theorem d289_375 : decode code 375 = .ok (.lcmp, 1) := by decide +kernel
theorem d289_376 : decode code 376 = .ok (.ifCond .eq 5, 3) := by decide +kernel
theorem d289_379 : decode code 379 = .ok (.iconst 0, 1) := by decide +kernel
theorem d289_380 : decode code 380 = .ok (.ireturn, 1) := by decide +kernel
theorem d289_381 : decode code 381 = .ok (.goto 2620, 3) := by decide +kernel
theorem d289_384 : decode code 384 = .ok (.aload_n 1, 1) := by decide +kernel
theorem d289_385 : decode code 385 = .ok (.aload_n 0, 1) := by decide +kernel
theorem d289_386 : decode code 386 = .ok (.iload 5, 2) := by decide +kernel
theorem d289_388 : decode code 388 = .ok (.iconst 1, 1) := by decide +kernel
theorem d289_389 : decode code 389 = .ok (.iadd, 1) := by decide +kernel
theorem d289_390 : decode code 390 = .ok (.iaload, 1) := by decide +kernel
theorem d289_391 : decode code 391 = .ok (.aload_n 3, 1) := by decide +kernel
theorem d289_392 : decode code 392 = .ok (.invokestatic 175, 3) := by decide +kernel
theorem d289_395 : decode code 395 = .ok (.istore 6, 2) := by decide +kernel
theorem d289_397 : decode code 397 = .ok (.aload_n 2, 1) := by decide +kernel
theorem d289_398 : decode code 398 = .ok (.aload_n 0, 1) := by decide +kernel
theorem d289_399 : decode code 399 = .ok (.iload 5, 2) := by decide +kernel
theorem d289_401 : decode code 401 = .ok (.iconst 1, 1) := by decide +kernel
theorem d289_402 : decode code 402 = .ok (.iadd, 1) := by decide +kernel
theorem d289_403 : decode code 403 = .ok (.iaload, 1) := by decide +kernel
theorem d289_404 : decode code 404 = .ok (.invokevirtual 178, 3) := by decide +kernel
theorem d289_407 : decode code 407 = .ok (.istore 7, 2) := by decide +kernel
theorem d289_409 : decode code 409 = .ok (.aload_n 2, 1) := by decide +kernel
theorem d289_410 : decode code 410 = .ok (.invokevirtual 172, 3) := by decide +kernel
theorem d289_413 : decode code 413 = .ok (.iload 6, 2) := by decide +kernel
theorem d289_415 : decode code 415 = .ok (.if_icmp .eq 5, 3) := by decide +kernel
theorem d289_418 : decode code 418 = .ok (.iconst 0, 1) := by decide +kernel
theorem d289_419 : decode code 419 = .ok (.ireturn, 1) := by decide +kernel
theorem d289_420 : decode code 420 = .ok (.iload 6, 2) := by decide +kernel
theorem d289_422 : decode code 422 = .ok (.ifCond .ne 15, 3) := by decide +kernel
theorem d289_425 : decode code 425 = .ok (.aload_n 3, 1) := by decide +kernel
theorem d289_426 : decode code 426 = .ok (.iconst 0, 1) := by decide +kernel
theorem d289_427 : decode code 427 = .ok (.laload, 1) := by decide +kernel
theorem d289_428 : decode code 428 = .ok (.iload 7, 2) := by decide +kernel
theorem d289_430 : decode code 430 = .ok (.i2l, 1) := by decide +kernel
theorem d289_431 : decode code 431 = .ok (.lcmp, 1) := by decide +kernel
theorem d289_432 : decode code 432 = .ok (.ifCond .eq 5, 3) := by decide +kernel
theorem d289_435 : decode code 435 = .ok (.iconst 0, 1) := by decide +kernel
theorem d289_436 : decode code 436 = .ok (.ireturn, 1) := by decide +kernel
theorem d289_437 : decode code 437 = .ok (.goto 2564, 3) := by decide +kernel
theorem d289_440 : decode code 440 = .ok (.aload_n 1, 1) := by decide +kernel
theorem d289_441 : decode code 441 = .ok (.aload_n 0, 1) := by decide +kernel
theorem d289_442 : decode code 442 = .ok (.iload 5, 2) := by decide +kernel
theorem d289_444 : decode code 444 = .ok (.iconst 1, 1) := by decide +kernel
theorem d289_445 : decode code 445 = .ok (.iadd, 1) := by decide +kernel
theorem d289_446 : decode code 446 = .ok (.iaload, 1) := by decide +kernel
theorem d289_447 : decode code 447 = .ok (.aload_n 0, 1) := by decide +kernel
theorem d289_448 : decode code 448 = .ok (.iload 5, 2) := by decide +kernel
theorem d289_450 : decode code 450 = .ok (.iconst 2, 1) := by decide +kernel
theorem d289_451 : decode code 451 = .ok (.iadd, 1) := by decide +kernel
theorem d289_452 : decode code 452 = .ok (.iaload, 1) := by decide +kernel
theorem d289_453 : decode code 453 = .ok (.aload_n 3, 1) := by decide +kernel
theorem d289_454 : decode code 454 = .ok (.invokestatic 179, 3) := by decide +kernel
theorem d289_457 : decode code 457 = .ok (.istore 6, 2) := by decide +kernel
theorem d289_459 : decode code 459 = .ok (.aload_n 2, 1) := by decide +kernel
theorem d289_460 : decode code 460 = .ok (.aload_n 0, 1) := by decide +kernel
theorem d289_461 : decode code 461 = .ok (.iload 5, 2) := by decide +kernel
theorem d289_463 : decode code 463 = .ok (.iconst 1, 1) := by decide +kernel
theorem d289_464 : decode code 464 = .ok (.iadd, 1) := by decide +kernel
theorem d289_465 : decode code 465 = .ok (.iaload, 1) := by decide +kernel
theorem d289_466 : decode code 466 = .ok (.aload_n 0, 1) := by decide +kernel
theorem d289_467 : decode code 467 = .ok (.iload 5, 2) := by decide +kernel
theorem d289_469 : decode code 469 = .ok (.iconst 2, 1) := by decide +kernel
theorem d289_470 : decode code 470 = .ok (.iadd, 1) := by decide +kernel
theorem d289_471 : decode code 471 = .ok (.iaload, 1) := by decide +kernel
theorem d289_472 : decode code 472 = .ok (.invokevirtual 182, 3) := by decide +kernel
theorem d289_475 : decode code 475 = .ok (.istore 7, 2) := by decide +kernel
theorem d289_477 : decode code 477 = .ok (.aload_n 2, 1) := by decide +kernel
theorem d289_478 : decode code 478 = .ok (.invokevirtual 172, 3) := by decide +kernel
theorem d289_481 : decode code 481 = .ok (.iload 6, 2) := by decide +kernel
theorem d289_483 : decode code 483 = .ok (.if_icmp .eq 5, 3) := by decide +kernel
theorem d289_486 : decode code 486 = .ok (.iconst 0, 1) := by decide +kernel
theorem d289_487 : decode code 487 = .ok (.ireturn, 1) := by decide +kernel
theorem d289_488 : decode code 488 = .ok (.iload 6, 2) := by decide +kernel
theorem d289_490 : decode code 490 = .ok (.ifCond .ne 15, 3) := by decide +kernel
theorem d289_493 : decode code 493 = .ok (.aload_n 3, 1) := by decide +kernel
theorem d289_494 : decode code 494 = .ok (.iconst 0, 1) := by decide +kernel
theorem d289_495 : decode code 495 = .ok (.laload, 1) := by decide +kernel
theorem d289_496 : decode code 496 = .ok (.iload 7, 2) := by decide +kernel
theorem d289_498 : decode code 498 = .ok (.i2l, 1) := by decide +kernel
theorem d289_499 : decode code 499 = .ok (.lcmp, 1) := by decide +kernel
theorem d289_500 : decode code 500 = .ok (.ifCond .eq 5, 3) := by decide +kernel
theorem d289_503 : decode code 503 = .ok (.iconst 0, 1) := by decide +kernel
theorem d289_504 : decode code 504 = .ok (.ireturn, 1) := by decide +kernel
theorem d289_505 : decode code 505 = .ok (.goto 2496, 3) := by decide +kernel
theorem d289_508 : decode code 508 = .ok (.aload_n 1, 1) := by decide +kernel
theorem d289_509 : decode code 509 = .ok (.aload_n 0, 1) := by decide +kernel
theorem d289_510 : decode code 510 = .ok (.iload 5, 2) := by decide +kernel
theorem d289_512 : decode code 512 = .ok (.iconst 1, 1) := by decide +kernel
theorem d289_513 : decode code 513 = .ok (.iadd, 1) := by decide +kernel
theorem d289_514 : decode code 514 = .ok (.iaload, 1) := by decide +kernel
theorem d289_515 : decode code 515 = .ok (.aload_n 3, 1) := by decide +kernel
theorem d289_516 : decode code 516 = .ok (.invokestatic 183, 3) := by decide +kernel
theorem d289_519 : decode code 519 = .ok (.istore 6, 2) := by decide +kernel
theorem d289_521 : decode code 521 = .ok (.aload_n 2, 1) := by decide +kernel
theorem d289_522 : decode code 522 = .ok (.aload_n 0, 1) := by decide +kernel
theorem d289_523 : decode code 523 = .ok (.iload 5, 2) := by decide +kernel
theorem d289_525 : decode code 525 = .ok (.iconst 1, 1) := by decide +kernel
theorem d289_526 : decode code 526 = .ok (.iadd, 1) := by decide +kernel
theorem d289_527 : decode code 527 = .ok (.iaload, 1) := by decide +kernel
theorem d289_528 : decode code 528 = .ok (.invokevirtual 185, 3) := by decide +kernel
theorem d289_531 : decode code 531 = .ok (.istore 7, 2) := by decide +kernel
theorem d289_533 : decode code 533 = .ok (.aload_n 2, 1) := by decide +kernel
theorem d289_534 : decode code 534 = .ok (.invokevirtual 172, 3) := by decide +kernel
theorem d289_537 : decode code 537 = .ok (.iload 6, 2) := by decide +kernel
theorem d289_539 : decode code 539 = .ok (.if_icmp .eq 5, 3) := by decide +kernel
theorem d289_542 : decode code 542 = .ok (.iconst 0, 1) := by decide +kernel
theorem d289_543 : decode code 543 = .ok (.ireturn, 1) := by decide +kernel
theorem d289_544 : decode code 544 = .ok (.iload 6, 2) := by decide +kernel
theorem d289_546 : decode code 546 = .ok (.ifCond .ne 15, 3) := by decide +kernel
theorem d289_549 : decode code 549 = .ok (.aload_n 3, 1) := by decide +kernel
theorem d289_550 : decode code 550 = .ok (.iconst 0, 1) := by decide +kernel
theorem d289_551 : decode code 551 = .ok (.laload, 1) := by decide +kernel
theorem d289_552 : decode code 552 = .ok (.iload 7, 2) := by decide +kernel
theorem d289_554 : decode code 554 = .ok (.i2l, 1) := by decide +kernel
theorem d289_555 : decode code 555 = .ok (.lcmp, 1) := by decide +kernel
theorem d289_556 : decode code 556 = .ok (.ifCond .eq 5, 3) := by decide +kernel
theorem d289_559 : decode code 559 = .ok (.iconst 0, 1) := by decide +kernel
theorem d289_560 : decode code 560 = .ok (.ireturn, 1) := by decide +kernel
theorem d289_561 : decode code 561 = .ok (.goto 2440, 3) := by decide +kernel
theorem d289_564 : decode code 564 = .ok (.aload_n 1, 1) := by decide +kernel
theorem d289_565 : decode code 565 = .ok (.aload_n 0, 1) := by decide +kernel
theorem d289_566 : decode code 566 = .ok (.iload 5, 2) := by decide +kernel
theorem d289_568 : decode code 568 = .ok (.iconst 1, 1) := by decide +kernel
theorem d289_569 : decode code 569 = .ok (.iadd, 1) := by decide +kernel
theorem d289_570 : decode code 570 = .ok (.iaload, 1) := by decide +kernel
theorem d289_571 : decode code 571 = .ok (.i2c, 1) := by decide +kernel
theorem d289_572 : decode code 572 = .ok (.aload_n 0, 1) := by decide +kernel
theorem d289_573 : decode code 573 = .ok (.iload 5, 2) := by decide +kernel
theorem d289_575 : decode code 575 = .ok (.iconst 2, 1) := by decide +kernel
theorem d289_576 : decode code 576 = .ok (.iadd, 1) := by decide +kernel
theorem d289_577 : decode code 577 = .ok (.iaload, 1) := by decide +kernel
theorem d289_578 : decode code 578 = .ok (.aload_n 3, 1) := by decide +kernel
theorem d289_579 : decode code 579 = .ok (.invokestatic 186, 3) := by decide +kernel
theorem d289_582 : decode code 582 = .ok (.istore 6, 2) := by decide +kernel
theorem d289_584 : decode code 584 = .ok (.aload_n 2, 1) := by decide +kernel
theorem d289_585 : decode code 585 = .ok (.aload_n 0, 1) := by decide +kernel
theorem d289_586 : decode code 586 = .ok (.iload 5, 2) := by decide +kernel
theorem d289_588 : decode code 588 = .ok (.iconst 1, 1) := by decide +kernel
theorem d289_589 : decode code 589 = .ok (.iadd, 1) := by decide +kernel
theorem d289_590 : decode code 590 = .ok (.iaload, 1) := by decide +kernel
theorem d289_591 : decode code 591 = .ok (.i2c, 1) := by decide +kernel
theorem d289_592 : decode code 592 = .ok (.aload_n 0, 1) := by decide +kernel
theorem d289_593 : decode code 593 = .ok (.iload 5, 2) := by decide +kernel
theorem d289_595 : decode code 595 = .ok (.iconst 2, 1) := by decide +kernel
theorem d289_596 : decode code 596 = .ok (.iadd, 1) := by decide +kernel
theorem d289_597 : decode code 597 = .ok (.iaload, 1) := by decide +kernel
theorem d289_598 : decode code 598 = .ok (.invokevirtual 189, 3) := by decide +kernel
theorem d289_601 : decode code 601 = .ok (.istore 7, 2) := by decide +kernel
theorem d289_603 : decode code 603 = .ok (.aload_n 2, 1) := by decide +kernel
theorem d289_604 : decode code 604 = .ok (.invokevirtual 172, 3) := by decide +kernel
theorem d289_607 : decode code 607 = .ok (.iload 6, 2) := by decide +kernel
theorem d289_609 : decode code 609 = .ok (.if_icmp .eq 5, 3) := by decide +kernel
theorem d289_612 : decode code 612 = .ok (.iconst 0, 1) := by decide +kernel
theorem d289_613 : decode code 613 = .ok (.ireturn, 1) := by decide +kernel
theorem d289_614 : decode code 614 = .ok (.iload 6, 2) := by decide +kernel
theorem d289_616 : decode code 616 = .ok (.ifCond .ne 15, 3) := by decide +kernel
theorem d289_619 : decode code 619 = .ok (.aload_n 3, 1) := by decide +kernel
theorem d289_620 : decode code 620 = .ok (.iconst 0, 1) := by decide +kernel
theorem d289_621 : decode code 621 = .ok (.laload, 1) := by decide +kernel
theorem d289_622 : decode code 622 = .ok (.iload 7, 2) := by decide +kernel
theorem d289_624 : decode code 624 = .ok (.i2l, 1) := by decide +kernel
theorem d289_625 : decode code 625 = .ok (.lcmp, 1) := by decide +kernel
theorem d289_626 : decode code 626 = .ok (.ifCond .eq 5, 3) := by decide +kernel
theorem d289_629 : decode code 629 = .ok (.iconst 0, 1) := by decide +kernel
theorem d289_630 : decode code 630 = .ok (.ireturn, 1) := by decide +kernel
theorem d289_631 : decode code 631 = .ok (.goto 2370, 3) := by decide +kernel
theorem d289_634 : decode code 634 = .ok (.aload_n 1, 1) := by decide +kernel
theorem d289_635 : decode code 635 = .ok (.aload_n 0, 1) := by decide +kernel
theorem d289_636 : decode code 636 = .ok (.iload 5, 2) := by decide +kernel
theorem d289_638 : decode code 638 = .ok (.iconst 1, 1) := by decide +kernel
theorem d289_639 : decode code 639 = .ok (.iadd, 1) := by decide +kernel
theorem d289_640 : decode code 640 = .ok (.iaload, 1) := by decide +kernel
theorem d289_641 : decode code 641 = .ok (.aload_n 0, 1) := by decide +kernel
theorem d289_642 : decode code 642 = .ok (.iload 5, 2) := by decide +kernel
theorem d289_644 : decode code 644 = .ok (.iconst 2, 1) := by decide +kernel
theorem d289_645 : decode code 645 = .ok (.iadd, 1) := by decide +kernel
theorem d289_646 : decode code 646 = .ok (.iaload, 1) := by decide +kernel
theorem d289_647 : decode code 647 = .ok (.i2c, 1) := by decide +kernel
theorem d289_648 : decode code 648 = .ok (.aload_n 0, 1) := by decide +kernel
theorem d289_649 : decode code 649 = .ok (.iload 5, 2) := by decide +kernel
theorem d289_651 : decode code 651 = .ok (.iconst 3, 1) := by decide +kernel
theorem d289_652 : decode code 652 = .ok (.iadd, 1) := by decide +kernel
theorem d289_653 : decode code 653 = .ok (.iaload, 1) := by decide +kernel
theorem d289_654 : decode code 654 = .ok (.aload_n 3, 1) := by decide +kernel
theorem d289_655 : decode code 655 = .ok (.invokestatic 190, 3) := by decide +kernel
theorem d289_658 : decode code 658 = .ok (.istore 6, 2) := by decide +kernel
theorem d289_660 : decode code 660 = .ok (.aload_n 2, 1) := by decide +kernel
theorem d289_661 : decode code 661 = .ok (.aload_n 0, 1) := by decide +kernel
theorem d289_662 : decode code 662 = .ok (.iload 5, 2) := by decide +kernel
theorem d289_664 : decode code 664 = .ok (.iconst 1, 1) := by decide +kernel
theorem d289_665 : decode code 665 = .ok (.iadd, 1) := by decide +kernel
theorem d289_666 : decode code 666 = .ok (.iaload, 1) := by decide +kernel
theorem d289_667 : decode code 667 = .ok (.aload_n 0, 1) := by decide +kernel
theorem d289_668 : decode code 668 = .ok (.iload 5, 2) := by decide +kernel
theorem d289_670 : decode code 670 = .ok (.iconst 2, 1) := by decide +kernel
theorem d289_671 : decode code 671 = .ok (.iadd, 1) := by decide +kernel
theorem d289_672 : decode code 672 = .ok (.iaload, 1) := by decide +kernel
theorem d289_673 : decode code 673 = .ok (.i2c, 1) := by decide +kernel
theorem d289_674 : decode code 674 = .ok (.aload_n 0, 1) := by decide +kernel
theorem d289_675 : decode code 675 = .ok (.iload 5, 2) := by decide +kernel
theorem d289_677 : decode code 677 = .ok (.iconst 3, 1) := by decide +kernel
theorem d289_678 : decode code 678 = .ok (.iadd, 1) := by decide +kernel
theorem d289_679 : decode code 679 = .ok (.iaload, 1) := by decide +kernel
theorem d289_680 : decode code 680 = .ok (.invokevirtual 193, 3) := by decide +kernel
theorem d289_683 : decode code 683 = .ok (.istore 7, 2) := by decide +kernel
theorem d289_685 : decode code 685 = .ok (.aload_n 2, 1) := by decide +kernel
theorem d289_686 : decode code 686 = .ok (.invokevirtual 172, 3) := by decide +kernel
theorem d289_689 : decode code 689 = .ok (.iload 6, 2) := by decide +kernel
theorem d289_691 : decode code 691 = .ok (.if_icmp .eq 5, 3) := by decide +kernel
theorem d289_694 : decode code 694 = .ok (.iconst 0, 1) := by decide +kernel
theorem d289_695 : decode code 695 = .ok (.ireturn, 1) := by decide +kernel
theorem d289_696 : decode code 696 = .ok (.iload 6, 2) := by decide +kernel
theorem d289_698 : decode code 698 = .ok (.ifCond .ne 15, 3) := by decide +kernel
theorem d289_701 : decode code 701 = .ok (.aload_n 3, 1) := by decide +kernel
theorem d289_702 : decode code 702 = .ok (.iconst 0, 1) := by decide +kernel
theorem d289_703 : decode code 703 = .ok (.laload, 1) := by decide +kernel
theorem d289_704 : decode code 704 = .ok (.iload 7, 2) := by decide +kernel
theorem d289_706 : decode code 706 = .ok (.i2l, 1) := by decide +kernel
theorem d289_707 : decode code 707 = .ok (.lcmp, 1) := by decide +kernel
theorem d289_708 : decode code 708 = .ok (.ifCond .eq 5, 3) := by decide +kernel
theorem d289_711 : decode code 711 = .ok (.iconst 0, 1) := by decide +kernel
theorem d289_712 : decode code 712 = .ok (.ireturn, 1) := by decide +kernel
theorem d289_713 : decode code 713 = .ok (.goto 2288, 3) := by decide +kernel
theorem d289_716 : decode code 716 = .ok (.aload_n 1, 1) := by decide +kernel
theorem d289_717 : decode code 717 = .ok (.aload_n 0, 1) := by decide +kernel
theorem d289_718 : decode code 718 = .ok (.iload 5, 2) := by decide +kernel
theorem d289_720 : decode code 720 = .ok (.iconst 1, 1) := by decide +kernel
theorem d289_721 : decode code 721 = .ok (.iadd, 1) := by decide +kernel
theorem d289_722 : decode code 722 = .ok (.iaload, 1) := by decide +kernel
theorem d289_723 : decode code 723 = .ok (.aload_n 0, 1) := by decide +kernel
theorem d289_724 : decode code 724 = .ok (.iload 5, 2) := by decide +kernel
theorem d289_726 : decode code 726 = .ok (.iconst 2, 1) := by decide +kernel
theorem d289_727 : decode code 727 = .ok (.iadd, 1) := by decide +kernel
theorem d289_728 : decode code 728 = .ok (.iaload, 1) := by decide +kernel
theorem d289_729 : decode code 729 = .ok (.aload_n 3, 1) := by decide +kernel
theorem d289_730 : decode code 730 = .ok (.invokestatic 194, 3) := by decide +kernel
theorem d289_733 : decode code 733 = .ok (.istore 6, 2) := by decide +kernel
theorem d289_735 : decode code 735 = .ok (.aload_n 2, 1) := by decide +kernel
theorem d289_736 : decode code 736 = .ok (.aload_n 0, 1) := by decide +kernel
theorem d289_737 : decode code 737 = .ok (.iload 5, 2) := by decide +kernel
theorem d289_739 : decode code 739 = .ok (.iconst 1, 1) := by decide +kernel
theorem d289_740 : decode code 740 = .ok (.iadd, 1) := by decide +kernel
theorem d289_741 : decode code 741 = .ok (.iaload, 1) := by decide +kernel
theorem d289_742 : decode code 742 = .ok (.aload_n 0, 1) := by decide +kernel
theorem d289_743 : decode code 743 = .ok (.iload 5, 2) := by decide +kernel
theorem d289_745 : decode code 745 = .ok (.iconst 2, 1) := by decide +kernel
theorem d289_746 : decode code 746 = .ok (.iadd, 1) := by decide +kernel
theorem d289_747 : decode code 747 = .ok (.iaload, 1) := by decide +kernel
theorem d289_748 : decode code 748 = .ok (.invokevirtual 196, 3) := by decide +kernel
theorem d289_751 : decode code 751 = .ok (.istore 7, 2) := by decide +kernel
theorem d289_753 : decode code 753 = .ok (.aload_n 2, 1) := by decide +kernel
theorem d289_754 : decode code 754 = .ok (.invokevirtual 172, 3) := by decide +kernel
theorem d289_757 : decode code 757 = .ok (.iload 6, 2) := by decide +kernel
theorem d289_759 : decode code 759 = .ok (.if_icmp .eq 5, 3) := by decide +kernel
theorem d289_762 : decode code 762 = .ok (.iconst 0, 1) := by decide +kernel
theorem d289_763 : decode code 763 = .ok (.ireturn, 1) := by decide +kernel
theorem d289_764 : decode code 764 = .ok (.iload 6, 2) := by decide +kernel
theorem d289_766 : decode code 766 = .ok (.ifCond .ne 15, 3) := by decide +kernel
theorem d289_769 : decode code 769 = .ok (.aload_n 3, 1) := by decide +kernel
theorem d289_770 : decode code 770 = .ok (.iconst 0, 1) := by decide +kernel
theorem d289_771 : decode code 771 = .ok (.laload, 1) := by decide +kernel
theorem d289_772 : decode code 772 = .ok (.iload 7, 2) := by decide +kernel
theorem d289_774 : decode code 774 = .ok (.i2l, 1) := by decide +kernel
theorem d289_775 : decode code 775 = .ok (.lcmp, 1) := by decide +kernel
theorem d289_776 : decode code 776 = .ok (.ifCond .eq 5, 3) := by decide +kernel
theorem d289_779 : decode code 779 = .ok (.iconst 0, 1) := by decide +kernel
theorem d289_780 : decode code 780 = .ok (.ireturn, 1) := by decide +kernel
theorem d289_781 : decode code 781 = .ok (.goto 2220, 3) := by decide +kernel
theorem d289_784 : decode code 784 = .ok (.aload_n 1, 1) := by decide +kernel
theorem d289_785 : decode code 785 = .ok (.aload_n 0, 1) := by decide +kernel
theorem d289_786 : decode code 786 = .ok (.iload 5, 2) := by decide +kernel
theorem d289_788 : decode code 788 = .ok (.iconst 1, 1) := by decide +kernel
theorem d289_789 : decode code 789 = .ok (.iadd, 1) := by decide +kernel
theorem d289_790 : decode code 790 = .ok (.iaload, 1) := by decide +kernel
theorem d289_791 : decode code 791 = .ok (.aload_n 0, 1) := by decide +kernel
theorem d289_792 : decode code 792 = .ok (.iload 5, 2) := by decide +kernel
theorem d289_794 : decode code 794 = .ok (.iconst 2, 1) := by decide +kernel
theorem d289_795 : decode code 795 = .ok (.iadd, 1) := by decide +kernel
theorem d289_796 : decode code 796 = .ok (.iaload, 1) := by decide +kernel
theorem d289_797 : decode code 797 = .ok (.aload_n 3, 1) := by decide +kernel
theorem d289_798 : decode code 798 = .ok (.invokestatic 197, 3) := by decide +kernel
theorem d289_801 : decode code 801 = .ok (.istore 6, 2) := by decide +kernel
theorem d289_803 : decode code 803 = .ok (.aload_n 2, 1) := by decide +kernel
theorem d289_804 : decode code 804 = .ok (.aload_n 0, 1) := by decide +kernel
theorem d289_805 : decode code 805 = .ok (.iload 5, 2) := by decide +kernel
theorem d289_807 : decode code 807 = .ok (.iconst 1, 1) := by decide +kernel
theorem d289_808 : decode code 808 = .ok (.iadd, 1) := by decide +kernel
theorem d289_809 : decode code 809 = .ok (.iaload, 1) := by decide +kernel
theorem d289_810 : decode code 810 = .ok (.aload_n 0, 1) := by decide +kernel
theorem d289_811 : decode code 811 = .ok (.iload 5, 2) := by decide +kernel
theorem d289_813 : decode code 813 = .ok (.iconst 2, 1) := by decide +kernel
theorem d289_814 : decode code 814 = .ok (.iadd, 1) := by decide +kernel
theorem d289_815 : decode code 815 = .ok (.iaload, 1) := by decide +kernel
theorem d289_816 : decode code 816 = .ok (.invokevirtual 199, 3) := by decide +kernel
theorem d289_819 : decode code 819 = .ok (.istore 7, 2) := by decide +kernel
theorem d289_821 : decode code 821 = .ok (.aload_n 2, 1) := by decide +kernel
theorem d289_822 : decode code 822 = .ok (.invokevirtual 172, 3) := by decide +kernel
theorem d289_825 : decode code 825 = .ok (.iload 6, 2) := by decide +kernel
theorem d289_827 : decode code 827 = .ok (.if_icmp .eq 5, 3) := by decide +kernel
theorem d289_830 : decode code 830 = .ok (.iconst 0, 1) := by decide +kernel
theorem d289_831 : decode code 831 = .ok (.ireturn, 1) := by decide +kernel
theorem d289_832 : decode code 832 = .ok (.iload 6, 2) := by decide +kernel
theorem d289_834 : decode code 834 = .ok (.ifCond .ne 15, 3) := by decide +kernel
theorem d289_837 : decode code 837 = .ok (.aload_n 3, 1) := by decide +kernel
theorem d289_838 : decode code 838 = .ok (.iconst 0, 1) := by decide +kernel
theorem d289_839 : decode code 839 = .ok (.laload, 1) := by decide +kernel
theorem d289_840 : decode code 840 = .ok (.iload 7, 2) := by decide +kernel
theorem d289_842 : decode code 842 = .ok (.i2l, 1) := by decide +kernel
theorem d289_843 : decode code 843 = .ok (.lcmp, 1) := by decide +kernel
theorem d289_844 : decode code 844 = .ok (.ifCond .eq 5, 3) := by decide +kernel
theorem d289_847 : decode code 847 = .ok (.iconst 0, 1) := by decide +kernel
theorem d289_848 : decode code 848 = .ok (.ireturn, 1) := by decide +kernel
theorem d289_849 : decode code 849 = .ok (.goto 2152, 3) := by decide +kernel
theorem d289_852 : decode code 852 = .ok (.aload_n 1, 1) := by decide +kernel
theorem d289_853 : decode code 853 = .ok (.aload_n 0, 1) := by decide +kernel
theorem d289_854 : decode code 854 = .ok (.iload 5, 2) := by decide +kernel
theorem d289_856 : decode code 856 = .ok (.iconst 1, 1) := by decide +kernel
theorem d289_857 : decode code 857 = .ok (.iadd, 1) := by decide +kernel
theorem d289_858 : decode code 858 = .ok (.iaload, 1) := by decide +kernel
theorem d289_859 : decode code 859 = .ok (.aload_n 0, 1) := by decide +kernel
theorem d289_860 : decode code 860 = .ok (.iload 5, 2) := by decide +kernel
theorem d289_862 : decode code 862 = .ok (.iconst 2, 1) := by decide +kernel
theorem d289_863 : decode code 863 = .ok (.iadd, 1) := by decide +kernel
theorem d289_864 : decode code 864 = .ok (.iaload, 1) := by decide +kernel
theorem d289_865 : decode code 865 = .ok (.aload_n 3, 1) := by decide +kernel
theorem d289_866 : decode code 866 = .ok (.invokestatic 200, 3) := by decide +kernel
theorem d289_869 : decode code 869 = .ok (.istore 6, 2) := by decide +kernel
theorem d289_871 : decode code 871 = .ok (.aload_n 2, 1) := by decide +kernel
theorem d289_872 : decode code 872 = .ok (.aload_n 0, 1) := by decide +kernel
theorem d289_873 : decode code 873 = .ok (.iload 5, 2) := by decide +kernel
theorem d289_875 : decode code 875 = .ok (.iconst 1, 1) := by decide +kernel
theorem d289_876 : decode code 876 = .ok (.iadd, 1) := by decide +kernel
theorem d289_877 : decode code 877 = .ok (.iaload, 1) := by decide +kernel
theorem d289_878 : decode code 878 = .ok (.aload_n 0, 1) := by decide +kernel
theorem d289_879 : decode code 879 = .ok (.iload 5, 2) := by decide +kernel
theorem d289_881 : decode code 881 = .ok (.iconst 2, 1) := by decide +kernel
theorem d289_882 : decode code 882 = .ok (.iadd, 1) := by decide +kernel
theorem d289_883 : decode code 883 = .ok (.iaload, 1) := by decide +kernel
theorem d289_884 : decode code 884 = .ok (.invokevirtual 202, 3) := by decide +kernel
theorem d289_887 : decode code 887 = .ok (.istore 7, 2) := by decide +kernel
theorem d289_889 : decode code 889 = .ok (.aload_n 2, 1) := by decide +kernel
theorem d289_890 : decode code 890 = .ok (.invokevirtual 172, 3) := by decide +kernel
theorem d289_893 : decode code 893 = .ok (.iload 6, 2) := by decide +kernel
theorem d289_895 : decode code 895 = .ok (.if_icmp .eq 5, 3) := by decide +kernel
theorem d289_898 : decode code 898 = .ok (.iconst 0, 1) := by decide +kernel
theorem d289_899 : decode code 899 = .ok (.ireturn, 1) := by decide +kernel
theorem d289_900 : decode code 900 = .ok (.iload 6, 2) := by decide +kernel
theorem d289_902 : decode code 902 = .ok (.ifCond .ne 15, 3) := by decide +kernel
theorem d289_905 : decode code 905 = .ok (.aload_n 3, 1) := by decide +kernel
theorem d289_906 : decode code 906 = .ok (.iconst 0, 1) := by decide +kernel
theorem d289_907 : decode code 907 = .ok (.laload, 1) := by decide +kernel
theorem d289_908 : decode code 908 = .ok (.iload 7, 2) := by decide +kernel
theorem d289_910 : decode code 910 = .ok (.i2l, 1) := by decide +kernel
theorem d289_911 : decode code 911 = .ok (.lcmp, 1) := by decide +kernel
theorem d289_912 : decode code 912 = .ok (.ifCond .eq 5, 3) := by decide +kernel
theorem d289_915 : decode code 915 = .ok (.iconst 0, 1) := by decide +kernel
theorem d289_916 : decode code 916 = .ok (.ireturn, 1) := by decide +kernel
theorem d289_917 : decode code 917 = .ok (.goto 2084, 3) := by decide +kernel
theorem d289_920 : decode code 920 = .ok (.aload_n 1, 1) := by decide +kernel
theorem d289_921 : decode code 921 = .ok (.aload_n 0, 1) := by decide +kernel
theorem d289_922 : decode code 922 = .ok (.iload 5, 2) := by decide +kernel
theorem d289_924 : decode code 924 = .ok (.iconst 1, 1) := by decide +kernel
theorem d289_925 : decode code 925 = .ok (.iadd, 1) := by decide +kernel
theorem d289_926 : decode code 926 = .ok (.iaload, 1) := by decide +kernel
theorem d289_927 : decode code 927 = .ok (.aload_n 3, 1) := by decide +kernel
theorem d289_928 : decode code 928 = .ok (.invokestatic 203, 3) := by decide +kernel
theorem d289_931 : decode code 931 = .ok (.istore 6, 2) := by decide +kernel
theorem d289_933 : decode code 933 = .ok (.aload_n 2, 1) := by decide +kernel
theorem d289_934 : decode code 934 = .ok (.aload_n 0, 1) := by decide +kernel
theorem d289_935 : decode code 935 = .ok (.iload 5, 2) := by decide +kernel
theorem d289_937 : decode code 937 = .ok (.iconst 1, 1) := by decide +kernel
theorem d289_938 : decode code 938 = .ok (.iadd, 1) := by decide +kernel
theorem d289_939 : decode code 939 = .ok (.iaload, 1) := by decide +kernel
theorem d289_940 : decode code 940 = .ok (.invokevirtual 205, 3) := by decide +kernel
theorem d289_943 : decode code 943 = .ok (.istore 7, 2) := by decide +kernel
theorem d289_945 : decode code 945 = .ok (.aload_n 2, 1) := by decide +kernel
theorem d289_946 : decode code 946 = .ok (.invokevirtual 172, 3) := by decide +kernel
theorem d289_949 : decode code 949 = .ok (.iload 6, 2) := by decide +kernel
theorem d289_951 : decode code 951 = .ok (.if_icmp .eq 5, 3) := by decide +kernel
theorem d289_954 : decode code 954 = .ok (.iconst 0, 1) := by decide +kernel
theorem d289_955 : decode code 955 = .ok (.ireturn, 1) := by decide +kernel
theorem d289_956 : decode code 956 = .ok (.iload 6, 2) := by decide +kernel
theorem d289_958 : decode code 958 = .ok (.ifCond .ne 15, 3) := by decide +kernel
theorem d289_961 : decode code 961 = .ok (.aload_n 3, 1) := by decide +kernel
theorem d289_962 : decode code 962 = .ok (.iconst 0, 1) := by decide +kernel
theorem d289_963 : decode code 963 = .ok (.laload, 1) := by decide +kernel
theorem d289_964 : decode code 964 = .ok (.iload 7, 2) := by decide +kernel
theorem d289_966 : decode code 966 = .ok (.i2l, 1) := by decide +kernel
theorem d289_967 : decode code 967 = .ok (.lcmp, 1) := by decide +kernel
theorem d289_968 : decode code 968 = .ok (.ifCond .eq 5, 3) := by decide +kernel
theorem d289_971 : decode code 971 = .ok (.iconst 0, 1) := by decide +kernel
theorem d289_972 : decode code 972 = .ok (.ireturn, 1) := by decide +kernel
theorem d289_973 : decode code 973 = .ok (.goto 2028, 3) := by decide +kernel
theorem d289_976 : decode code 976 = .ok (.aload_n 1, 1) := by decide +kernel
theorem d289_977 : decode code 977 = .ok (.aload_n 0, 1) := by decide +kernel
theorem d289_978 : decode code 978 = .ok (.iload 5, 2) := by decide +kernel
theorem d289_980 : decode code 980 = .ok (.iconst 1, 1) := by decide +kernel
theorem d289_981 : decode code 981 = .ok (.iadd, 1) := by decide +kernel
theorem d289_982 : decode code 982 = .ok (.iaload, 1) := by decide +kernel
theorem d289_983 : decode code 983 = .ok (.aload_n 0, 1) := by decide +kernel
theorem d289_984 : decode code 984 = .ok (.iload 5, 2) := by decide +kernel
theorem d289_986 : decode code 986 = .ok (.iconst 2, 1) := by decide +kernel
theorem d289_987 : decode code 987 = .ok (.iadd, 1) := by decide +kernel
theorem d289_988 : decode code 988 = .ok (.iaload, 1) := by decide +kernel
theorem d289_989 : decode code 989 = .ok (.aload_n 3, 1) := by decide +kernel
theorem d289_990 : decode code 990 = .ok (.invokestatic 206, 3) := by decide +kernel
theorem d289_993 : decode code 993 = .ok (.istore 6, 2) := by decide +kernel
theorem d289_995 : decode code 995 = .ok (.aload_n 2, 1) := by decide +kernel
theorem d289_996 : decode code 996 = .ok (.aload_n 0, 1) := by decide +kernel
theorem d289_997 : decode code 997 = .ok (.iload 5, 2) := by decide +kernel
theorem d289_999 : decode code 999 = .ok (.iconst 1, 1) := by decide +kernel
theorem d289_1000 : decode code 1000 = .ok (.iadd, 1) := by decide +kernel
theorem d289_1001 : decode code 1001 = .ok (.iaload, 1) := by decide +kernel
theorem d289_1002 : decode code 1002 = .ok (.aload_n 0, 1) := by decide +kernel
theorem d289_1003 : decode code 1003 = .ok (.iload 5, 2) := by decide +kernel
theorem d289_1005 : decode code 1005 = .ok (.iconst 2, 1) := by decide +kernel
theorem d289_1006 : decode code 1006 = .ok (.iadd, 1) := by decide +kernel
theorem d289_1007 : decode code 1007 = .ok (.iaload, 1) := by decide +kernel
theorem d289_1008 : decode code 1008 = .ok (.invokevirtual 208, 3) := by decide +kernel
theorem d289_1011 : decode code 1011 = .ok (.istore 7, 2) := by decide +kernel
theorem d289_1013 : decode code 1013 = .ok (.aload_n 2, 1) := by decide +kernel
theorem d289_1014 : decode code 1014 = .ok (.invokevirtual 172, 3) := by decide +kernel
theorem d289_1017 : decode code 1017 = .ok (.iload 6, 2) := by decide +kernel
theorem d289_1019 : decode code 1019 = .ok (.if_icmp .eq 5, 3) := by decide +kernel
theorem d289_1022 : decode code 1022 = .ok (.iconst 0, 1) := by decide +kernel
theorem d289_1023 : decode code 1023 = .ok (.ireturn, 1) := by decide +kernel
theorem d289_1024 : decode code 1024 = .ok (.iload 6, 2) := by decide +kernel
theorem d289_1026 : decode code 1026 = .ok (.ifCond .ne 15, 3) := by decide +kernel
theorem d289_1029 : decode code 1029 = .ok (.aload_n 3, 1) := by decide +kernel
theorem d289_1030 : decode code 1030 = .ok (.iconst 0, 1) := by decide +kernel
theorem d289_1031 : decode code 1031 = .ok (.laload, 1) := by decide +kernel
theorem d289_1032 : decode code 1032 = .ok (.iload 7, 2) := by decide +kernel
theorem d289_1034 : decode code 1034 = .ok (.i2l, 1) := by decide +kernel
theorem d289_1035 : decode code 1035 = .ok (.lcmp, 1) := by decide +kernel
theorem d289_1036 : decode code 1036 = .ok (.ifCond .eq 5, 3) := by decide +kernel
theorem d289_1039 : decode code 1039 = .ok (.iconst 0, 1) := by decide +kernel
theorem d289_1040 : decode code 1040 = .ok (.ireturn, 1) := by decide +kernel
theorem d289_1041 : decode code 1041 = .ok (.goto 1960, 3) := by decide +kernel
theorem d289_1044 : decode code 1044 = .ok (.aload_n 1, 1) := by decide +kernel
theorem d289_1045 : decode code 1045 = .ok (.invokevirtual 209, 3) := by decide +kernel
theorem d289_1048 : decode code 1048 = .ok (.aload_n 2, 1) := by decide +kernel
theorem d289_1049 : decode code 1049 = .ok (.invokevirtual 212, 3) := by decide +kernel
theorem d289_1052 : decode code 1052 = .ok (.if_icmp .eq 1949, 3) := by decide +kernel
theorem d289_1055 : decode code 1055 = .ok (.iconst 0, 1) := by decide +kernel
theorem d289_1056 : decode code 1056 = .ok (.ireturn, 1) := by decide +kernel
theorem d289_1057 : decode code 1057 = .ok (.aload_n 1, 1) := by decide +kernel
theorem d289_1058 : decode code 1058 = .ok (.aload_n 0, 1) := by decide +kernel
theorem d289_1059 : decode code 1059 = .ok (.iload 5, 2) := by decide +kernel
theorem d289_1061 : decode code 1061 = .ok (.iconst 1, 1) := by decide +kernel
theorem d289_1062 : decode code 1062 = .ok (.iadd, 1) := by decide +kernel
theorem d289_1063 : decode code 1063 = .ok (.iaload, 1) := by decide +kernel
theorem d289_1064 : decode code 1064 = .ok (.invokevirtual 213, 3) := by decide +kernel
theorem d289_1067 : decode code 1067 = .ok (.aload_n 2, 1) := by decide +kernel
theorem d289_1068 : decode code 1068 = .ok (.aload_n 0, 1) := by decide +kernel
theorem d289_1069 : decode code 1069 = .ok (.iload 5, 2) := by decide +kernel
theorem d289_1071 : decode code 1071 = .ok (.iconst 1, 1) := by decide +kernel
theorem d289_1072 : decode code 1072 = .ok (.iadd, 1) := by decide +kernel
theorem d289_1073 : decode code 1073 = .ok (.iaload, 1) := by decide +kernel
theorem d289_1074 : decode code 1074 = .ok (.invokevirtual 216, 3) := by decide +kernel
theorem d289_1077 : decode code 1077 = .ok (.if_icmp .eq 1924, 3) := by decide +kernel
theorem d289_1080 : decode code 1080 = .ok (.iconst 0, 1) := by decide +kernel
theorem d289_1081 : decode code 1081 = .ok (.ireturn, 1) := by decide +kernel
theorem d289_1082 : decode code 1082 = .ok (.aload_n 1, 1) := by decide +kernel
theorem d289_1083 : decode code 1083 = .ok (.aload_n 0, 1) := by decide +kernel
theorem d289_1084 : decode code 1084 = .ok (.iload 5, 2) := by decide +kernel
theorem d289_1086 : decode code 1086 = .ok (.iconst 1, 1) := by decide +kernel
theorem d289_1087 : decode code 1087 = .ok (.iadd, 1) := by decide +kernel
theorem d289_1088 : decode code 1088 = .ok (.iaload, 1) := by decide +kernel
theorem d289_1089 : decode code 1089 = .ok (.aload_n 3, 1) := by decide +kernel
theorem d289_1090 : decode code 1090 = .ok (.invokestatic 217, 3) := by decide +kernel
theorem d289_1093 : decode code 1093 = .ok (.istore 6, 2) := by decide +kernel
theorem d289_1095 : decode code 1095 = .ok (.aload_n 2, 1) := by decide +kernel
theorem d289_1096 : decode code 1096 = .ok (.aload_n 0, 1) := by decide +kernel
theorem d289_1097 : decode code 1097 = .ok (.iload 5, 2) := by decide +kernel
theorem d289_1099 : decode code 1099 = .ok (.iconst 1, 1) := by decide +kernel
theorem d289_1100 : decode code 1100 = .ok (.iadd, 1) := by decide +kernel
theorem d289_1101 : decode code 1101 = .ok (.iaload, 1) := by decide +kernel
theorem d289_1102 : decode code 1102 = .ok (.invokevirtual 219, 3) := by decide +kernel
theorem d289_1105 : decode code 1105 = .ok (.istore 7, 2) := by decide +kernel
theorem d289_1107 : decode code 1107 = .ok (.aload_n 2, 1) := by decide +kernel
theorem d289_1108 : decode code 1108 = .ok (.invokevirtual 172, 3) := by decide +kernel
theorem d289_1111 : decode code 1111 = .ok (.iload 6, 2) := by decide +kernel
theorem d289_1113 : decode code 1113 = .ok (.if_icmp .eq 5, 3) := by decide +kernel
theorem d289_1116 : decode code 1116 = .ok (.iconst 0, 1) := by decide +kernel
theorem d289_1117 : decode code 1117 = .ok (.ireturn, 1) := by decide +kernel
theorem d289_1118 : decode code 1118 = .ok (.iload 6, 2) := by decide +kernel
theorem d289_1120 : decode code 1120 = .ok (.ifCond .ne 15, 3) := by decide +kernel
theorem d289_1123 : decode code 1123 = .ok (.aload_n 3, 1) := by decide +kernel
theorem d289_1124 : decode code 1124 = .ok (.iconst 0, 1) := by decide +kernel
theorem d289_1125 : decode code 1125 = .ok (.laload, 1) := by decide +kernel
theorem d289_1126 : decode code 1126 = .ok (.iload 7, 2) := by decide +kernel
theorem d289_1128 : decode code 1128 = .ok (.i2l, 1) := by decide +kernel
theorem d289_1129 : decode code 1129 = .ok (.lcmp, 1) := by decide +kernel
theorem d289_1130 : decode code 1130 = .ok (.ifCond .eq 5, 3) := by decide +kernel
theorem d289_1133 : decode code 1133 = .ok (.iconst 0, 1) := by decide +kernel
theorem d289_1134 : decode code 1134 = .ok (.ireturn, 1) := by decide +kernel
theorem d289_1135 : decode code 1135 = .ok (.goto 1866, 3) := by decide +kernel
theorem d289_1138 : decode code 1138 = .ok (.aload_n 1, 1) := by decide +kernel
theorem d289_1139 : decode code 1139 = .ok (.aload_n 0, 1) := by decide +kernel
theorem d289_1140 : decode code 1140 = .ok (.iload 5, 2) := by decide +kernel
theorem d289_1142 : decode code 1142 = .ok (.iconst 1, 1) := by decide +kernel
theorem d289_1143 : decode code 1143 = .ok (.iadd, 1) := by decide +kernel
theorem d289_1144 : decode code 1144 = .ok (.iaload, 1) := by decide +kernel
theorem d289_1145 : decode code 1145 = .ok (.aload_n 3, 1) := by decide +kernel
theorem d289_1146 : decode code 1146 = .ok (.invokestatic 220, 3) := by decide +kernel
theorem d289_1149 : decode code 1149 = .ok (.istore 6, 2) := by decide +kernel
theorem d289_1151 : decode code 1151 = .ok (.aload_n 2, 1) := by decide +kernel
theorem d289_1152 : decode code 1152 = .ok (.aload_n 0, 1) := by decide +kernel
theorem d289_1153 : decode code 1153 = .ok (.iload 5, 2) := by decide +kernel
theorem d289_1155 : decode code 1155 = .ok (.iconst 1, 1) := by decide +kernel
theorem d289_1156 : decode code 1156 = .ok (.iadd, 1) := by decide +kernel
theorem d289_1157 : decode code 1157 = .ok (.iaload, 1) := by decide +kernel
theorem d289_1158 : decode code 1158 = .ok (.invokevirtual 222, 3) := by decide +kernel
theorem d289_1161 : decode code 1161 = .ok (.istore 7, 2) := by decide +kernel
theorem d289_1163 : decode code 1163 = .ok (.aload_n 2, 1) := by decide +kernel
theorem d289_1164 : decode code 1164 = .ok (.invokevirtual 172, 3) := by decide +kernel
theorem d289_1167 : decode code 1167 = .ok (.iload 6, 2) := by decide +kernel
theorem d289_1169 : decode code 1169 = .ok (.if_icmp .eq 5, 3) := by decide +kernel
theorem d289_1172 : decode code 1172 = .ok (.iconst 0, 1) := by decide +kernel
theorem d289_1173 : decode code 1173 = .ok (.ireturn, 1) := by decide +kernel
theorem d289_1174 : decode code 1174 = .ok (.iload 6, 2) := by decide +kernel
theorem d289_1176 : decode code 1176 = .ok (.ifCond .ne 15, 3) := by decide +kernel
theorem d289_1179 : decode code 1179 = .ok (.aload_n 3, 1) := by decide +kernel
theorem d289_1180 : decode code 1180 = .ok (.iconst 0, 1) := by decide +kernel
theorem d289_1181 : decode code 1181 = .ok (.laload, 1) := by decide +kernel
theorem d289_1182 : decode code 1182 = .ok (.iload 7, 2) := by decide +kernel
theorem d289_1184 : decode code 1184 = .ok (.i2l, 1) := by decide +kernel
theorem d289_1185 : decode code 1185 = .ok (.lcmp, 1) := by decide +kernel
theorem d289_1186 : decode code 1186 = .ok (.ifCond .eq 5, 3) := by decide +kernel
theorem d289_1189 : decode code 1189 = .ok (.iconst 0, 1) := by decide +kernel
theorem d289_1190 : decode code 1190 = .ok (.ireturn, 1) := by decide +kernel
theorem d289_1191 : decode code 1191 = .ok (.goto 1810, 3) := by decide +kernel
theorem d289_1194 : decode code 1194 = .ok (.aload_n 1, 1) := by decide +kernel
theorem d289_1195 : decode code 1195 = .ok (.aload_n 0, 1) := by decide +kernel
theorem d289_1196 : decode code 1196 = .ok (.iload 5, 2) := by decide +kernel
theorem d289_1198 : decode code 1198 = .ok (.iconst 1, 1) := by decide +kernel
theorem d289_1199 : decode code 1199 = .ok (.iadd, 1) := by decide +kernel
theorem d289_1200 : decode code 1200 = .ok (.iaload, 1) := by decide +kernel
theorem d289_1201 : decode code 1201 = .ok (.aload_n 3, 1) := by decide +kernel
theorem d289_1202 : decode code 1202 = .ok (.invokestatic 223, 3) := by decide +kernel
theorem d289_1205 : decode code 1205 = .ok (.istore 6, 2) := by decide +kernel
theorem d289_1207 : decode code 1207 = .ok (.aload_n 2, 1) := by decide +kernel
theorem d289_1208 : decode code 1208 = .ok (.aload_n 0, 1) := by decide +kernel
theorem d289_1209 : decode code 1209 = .ok (.iload 5, 2) := by decide +kernel
theorem d289_1211 : decode code 1211 = .ok (.iconst 1, 1) := by decide +kernel
theorem d289_1212 : decode code 1212 = .ok (.iadd, 1) := by decide +kernel
theorem d289_1213 : decode code 1213 = .ok (.iaload, 1) := by decide +kernel
theorem d289_1214 : decode code 1214 = .ok (.invokevirtual 225, 3) := by decide +kernel
theorem d289_1217 : decode code 1217 = .ok (.istore 7, 2) := by decide +kernel
theorem d289_1219 : decode code 1219 = .ok (.aload_n 2, 1) := by decide +kernel
theorem d289_1220 : decode code 1220 = .ok (.invokevirtual 172, 3) := by decide +kernel
theorem d289_1223 : decode code 1223 = .ok (.iload 6, 2) := by decide +kernel
theorem d289_1225 : decode code 1225 = .ok (.if_icmp .eq 5, 3) := by decide +kernel
theorem d289_1228 : decode code 1228 = .ok (.iconst 0, 1) := by decide +kernel
theorem d289_1229 : decode code 1229 = .ok (.ireturn, 1) := by decide +kernel
theorem d289_1230 : decode code 1230 = .ok (.iload 6, 2) := by decide +kernel
theorem d289_1232 : decode code 1232 = .ok (.ifCond .ne 15, 3) := by decide +kernel
theorem d289_1235 : decode code 1235 = .ok (.aload_n 3, 1) := by decide +kernel
theorem d289_1236 : decode code 1236 = .ok (.iconst 0, 1) := by decide +kernel
theorem d289_1237 : decode code 1237 = .ok (.laload, 1) := by decide +kernel
theorem d289_1238 : decode code 1238 = .ok (.iload 7, 2) := by decide +kernel
theorem d289_1240 : decode code 1240 = .ok (.i2l, 1) := by decide +kernel
theorem d289_1241 : decode code 1241 = .ok (.lcmp, 1) := by decide +kernel
theorem d289_1242 : decode code 1242 = .ok (.ifCond .eq 5, 3) := by decide +kernel
theorem d289_1245 : decode code 1245 = .ok (.iconst 0, 1) := by decide +kernel
theorem d289_1246 : decode code 1246 = .ok (.ireturn, 1) := by decide +kernel
theorem d289_1247 : decode code 1247 = .ok (.goto 1754, 3) := by decide +kernel
theorem d289_1250 : decode code 1250 = .ok (.aload_n 1, 1) := by decide +kernel
theorem d289_1251 : decode code 1251 = .ok (.aload_n 0, 1) := by decide +kernel
theorem d289_1252 : decode code 1252 = .ok (.iload 5, 2) := by decide +kernel
theorem d289_1254 : decode code 1254 = .ok (.iconst 1, 1) := by decide +kernel
theorem d289_1255 : decode code 1255 = .ok (.iadd, 1) := by decide +kernel
theorem d289_1256 : decode code 1256 = .ok (.iaload, 1) := by decide +kernel
theorem d289_1257 : decode code 1257 = .ok (.aload_n 3, 1) := by decide +kernel
theorem d289_1258 : decode code 1258 = .ok (.invokestatic 226, 3) := by decide +kernel
theorem d289_1261 : decode code 1261 = .ok (.istore 6, 2) := by decide +kernel
theorem d289_1263 : decode code 1263 = .ok (.aload_n 2, 1) := by decide +kernel
theorem d289_1264 : decode code 1264 = .ok (.aload_n 0, 1) := by decide +kernel
theorem d289_1265 : decode code 1265 = .ok (.iload 5, 2) := by decide +kernel
theorem d289_1267 : decode code 1267 = .ok (.iconst 1, 1) := by decide +kernel
theorem d289_1268 : decode code 1268 = .ok (.iadd, 1) := by decide +kernel
theorem d289_1269 : decode code 1269 = .ok (.iaload, 1) := by decide +kernel
theorem d289_1270 : decode code 1270 = .ok (.invokevirtual 228, 3) := by decide +kernel
theorem d289_1273 : decode code 1273 = .ok (.istore 7, 2) := by decide +kernel
theorem d289_1275 : decode code 1275 = .ok (.aload_n 2, 1) := by decide +kernel
theorem d289_1276 : decode code 1276 = .ok (.invokevirtual 172, 3) := by decide +kernel
theorem d289_1279 : decode code 1279 = .ok (.iload 6, 2) := by decide +kernel
theorem d289_1281 : decode code 1281 = .ok (.if_icmp .eq 5, 3) := by decide +kernel
theorem d289_1284 : decode code 1284 = .ok (.iconst 0, 1) := by decide +kernel
theorem d289_1285 : decode code 1285 = .ok (.ireturn, 1) := by decide +kernel
theorem d289_1286 : decode code 1286 = .ok (.iload 6, 2) := by decide +kernel
theorem d289_1288 : decode code 1288 = .ok (.ifCond .ne 15, 3) := by decide +kernel
theorem d289_1291 : decode code 1291 = .ok (.aload_n 3, 1) := by decide +kernel
theorem d289_1292 : decode code 1292 = .ok (.iconst 0, 1) := by decide +kernel
theorem d289_1293 : decode code 1293 = .ok (.laload, 1) := by decide +kernel
theorem d289_1294 : decode code 1294 = .ok (.iload 7, 2) := by decide +kernel
theorem d289_1296 : decode code 1296 = .ok (.i2l, 1) := by decide +kernel
theorem d289_1297 : decode code 1297 = .ok (.lcmp, 1) := by decide +kernel
theorem d289_1298 : decode code 1298 = .ok (.ifCond .eq 5, 3) := by decide +kernel
theorem d289_1301 : decode code 1301 = .ok (.iconst 0, 1) := by decide +kernel
theorem d289_1302 : decode code 1302 = .ok (.ireturn, 1) := by decide +kernel
theorem d289_1303 : decode code 1303 = .ok (.goto 1698, 3) := by decide +kernel
theorem d289_1306 : decode code 1306 = .ok (.aload_n 1, 1) := by decide +kernel
theorem d289_1307 : decode code 1307 = .ok (.aload_n 0, 1) := by decide +kernel
theorem d289_1308 : decode code 1308 = .ok (.iload 5, 2) := by decide +kernel
theorem d289_1310 : decode code 1310 = .ok (.iconst 1, 1) := by decide +kernel
theorem d289_1311 : decode code 1311 = .ok (.iadd, 1) := by decide +kernel
theorem d289_1312 : decode code 1312 = .ok (.iaload, 1) := by decide +kernel
theorem d289_1313 : decode code 1313 = .ok (.aload_n 3, 1) := by decide +kernel
theorem d289_1314 : decode code 1314 = .ok (.invokestatic 229, 3) := by decide +kernel
theorem d289_1317 : decode code 1317 = .ok (.istore 6, 2) := by decide +kernel
theorem d289_1319 : decode code 1319 = .ok (.aload_n 2, 1) := by decide +kernel
theorem d289_1320 : decode code 1320 = .ok (.aload_n 0, 1) := by decide +kernel
theorem d289_1321 : decode code 1321 = .ok (.iload 5, 2) := by decide +kernel
theorem d289_1323 : decode code 1323 = .ok (.iconst 1, 1) := by decide +kernel
theorem d289_1324 : decode code 1324 = .ok (.iadd, 1) := by decide +kernel
theorem d289_1325 : decode code 1325 = .ok (.iaload, 1) := by decide +kernel
theorem d289_1326 : decode code 1326 = .ok (.invokevirtual 231, 3) := by decide +kernel
theorem d289_1329 : decode code 1329 = .ok (.istore 7, 2) := by decide +kernel
theorem d289_1331 : decode code 1331 = .ok (.aload_n 2, 1) := by decide +kernel
theorem d289_1332 : decode code 1332 = .ok (.invokevirtual 172, 3) := by decide +kernel
theorem d289_1335 : decode code 1335 = .ok (.iload 6, 2) := by decide +kernel
theorem d289_1337 : decode code 1337 = .ok (.if_icmp .eq 5, 3) := by decide +kernel
theorem d289_1340 : decode code 1340 = .ok (.iconst 0, 1) := by decide +kernel
theorem d289_1341 : decode code 1341 = .ok (.ireturn, 1) := by decide +kernel
theorem d289_1342 : decode code 1342 = .ok (.iload 6, 2) := by decide +kernel
theorem d289_1344 : decode code 1344 = .ok (.ifCond .ne 15, 3) := by decide +kernel
theorem d289_1347 : decode code 1347 = .ok (.aload_n 3, 1) := by decide +kernel
theorem d289_1348 : decode code 1348 = .ok (.iconst 0, 1) := by decide +kernel
theorem d289_1349 : decode code 1349 = .ok (.laload, 1) := by decide +kernel
theorem d289_1350 : decode code 1350 = .ok (.iload 7, 2) := by decide +kernel
theorem d289_1352 : decode code 1352 = .ok (.i2l, 1) := by decide +kernel
theorem d289_1353 : decode code 1353 = .ok (.lcmp, 1) := by decide +kernel
theorem d289_1354 : decode code 1354 = .ok (.ifCond .eq 5, 3) := by decide +kernel
theorem d289_1357 : decode code 1357 = .ok (.iconst 0, 1) := by decide +kernel
theorem d289_1358 : decode code 1358 = .ok (.ireturn, 1) := by decide +kernel
theorem d289_1359 : decode code 1359 = .ok (.goto 1642, 3) := by decide +kernel
theorem d289_1362 : decode code 1362 = .ok (.aload_n 1, 1) := by decide +kernel
theorem d289_1363 : decode code 1363 = .ok (.aload_n 0, 1) := by decide +kernel
theorem d289_1364 : decode code 1364 = .ok (.iload 5, 2) := by decide +kernel
theorem d289_1366 : decode code 1366 = .ok (.iconst 1, 1) := by decide +kernel
theorem d289_1367 : decode code 1367 = .ok (.iadd, 1) := by decide +kernel
theorem d289_1368 : decode code 1368 = .ok (.iaload, 1) := by decide +kernel
theorem d289_1369 : decode code 1369 = .ok (.i2c, 1) := by decide +kernel
theorem d289_1370 : decode code 1370 = .ok (.aload_n 3, 1) := by decide +kernel
theorem d289_1371 : decode code 1371 = .ok (.invokestatic 232, 3) := by decide +kernel
theorem d289_1374 : decode code 1374 = .ok (.istore 6, 2) := by decide +kernel
theorem d289_1376 : decode code 1376 = .ok (.aload_n 2, 1) := by decide +kernel
theorem d289_1377 : decode code 1377 = .ok (.aload_n 0, 1) := by decide +kernel
theorem d289_1378 : decode code 1378 = .ok (.iload 5, 2) := by decide +kernel
theorem d289_1380 : decode code 1380 = .ok (.iconst 1, 1) := by decide +kernel
theorem d289_1381 : decode code 1381 = .ok (.iadd, 1) := by decide +kernel
theorem d289_1382 : decode code 1382 = .ok (.iaload, 1) := by decide +kernel
theorem d289_1383 : decode code 1383 = .ok (.i2c, 1) := by decide +kernel
theorem d289_1384 : decode code 1384 = .ok (.invokevirtual 235, 3) := by decide +kernel
theorem d289_1387 : decode code 1387 = .ok (.istore 7, 2) := by decide +kernel
theorem d289_1389 : decode code 1389 = .ok (.aload_n 2, 1) := by decide +kernel
theorem d289_1390 : decode code 1390 = .ok (.invokevirtual 172, 3) := by decide +kernel
theorem d289_1393 : decode code 1393 = .ok (.iload 6, 2) := by decide +kernel
theorem d289_1395 : decode code 1395 = .ok (.if_icmp .eq 5, 3) := by decide +kernel
theorem d289_1398 : decode code 1398 = .ok (.iconst 0, 1) := by decide +kernel
theorem d289_1399 : decode code 1399 = .ok (.ireturn, 1) := by decide +kernel
theorem d289_1400 : decode code 1400 = .ok (.iload 6, 2) := by decide +kernel
theorem d289_1402 : decode code 1402 = .ok (.ifCond .ne 15, 3) := by decide +kernel
theorem d289_1405 : decode code 1405 = .ok (.aload_n 3, 1) := by decide +kernel
theorem d289_1406 : decode code 1406 = .ok (.iconst 0, 1) := by decide +kernel
theorem d289_1407 : decode code 1407 = .ok (.laload, 1) := by decide +kernel
theorem d289_1408 : decode code 1408 = .ok (.iload 7, 2) := by decide +kernel
theorem d289_1410 : decode code 1410 = .ok (.i2l, 1) := by decide +kernel
theorem d289_1411 : decode code 1411 = .ok (.lcmp, 1) := by decide +kernel
theorem d289_1412 : decode code 1412 = .ok (.ifCond .eq 5, 3) := by decide +kernel
theorem d289_1415 : decode code 1415 = .ok (.iconst 0, 1) := by decide +kernel
theorem d289_1416 : decode code 1416 = .ok (.ireturn, 1) := by decide +kernel
theorem d289_1417 : decode code 1417 = .ok (.goto 1584, 3) := by decide +kernel
theorem d289_1420 : decode code 1420 = .ok (.aload_n 1, 1) := by decide +kernel
theorem d289_1421 : decode code 1421 = .ok (.aload_n 0, 1) := by decide +kernel
theorem d289_1422 : decode code 1422 = .ok (.iload 5, 2) := by decide +kernel
theorem d289_1424 : decode code 1424 = .ok (.iconst 1, 1) := by decide +kernel
theorem d289_1425 : decode code 1425 = .ok (.iadd, 1) := by decide +kernel
theorem d289_1426 : decode code 1426 = .ok (.iaload, 1) := by decide +kernel
theorem d289_1427 : decode code 1427 = .ok (.aload_n 0, 1) := by decide +kernel
theorem d289_1428 : decode code 1428 = .ok (.iload 5, 2) := by decide +kernel
theorem d289_1430 : decode code 1430 = .ok (.iconst 2, 1) := by decide +kernel
theorem d289_1431 : decode code 1431 = .ok (.iadd, 1) := by decide +kernel
theorem d289_1432 : decode code 1432 = .ok (.iaload, 1) := by decide +kernel
theorem d289_1433 : decode code 1433 = .ok (.i2c, 1) := by decide +kernel
theorem d289_1434 : decode code 1434 = .ok (.aload_n 3, 1) := by decide +kernel
theorem d289_1435 : decode code 1435 = .ok (.invokestatic 236, 3) := by decide +kernel
theorem d289_1438 : decode code 1438 = .ok (.istore 6, 2) := by decide +kernel
theorem d289_1440 : decode code 1440 = .ok (.aload_n 2, 1) := by decide +kernel
theorem d289_1441 : decode code 1441 = .ok (.aload_n 0, 1) := by decide +kernel
theorem d289_1442 : decode code 1442 = .ok (.iload 5, 2) := by decide +kernel
theorem d289_1444 : decode code 1444 = .ok (.iconst 1, 1) := by decide +kernel
theorem d289_1445 : decode code 1445 = .ok (.iadd, 1) := by decide +kernel
theorem d289_1446 : decode code 1446 = .ok (.iaload, 1) := by decide +kernel
theorem d289_1447 : decode code 1447 = .ok (.aload_n 0, 1) := by decide +kernel
theorem d289_1448 : decode code 1448 = .ok (.iload 5, 2) := by decide +kernel
theorem d289_1450 : decode code 1450 = .ok (.iconst 2, 1) := by decide +kernel
theorem d289_1451 : decode code 1451 = .ok (.iadd, 1) := by decide +kernel
theorem d289_1452 : decode code 1452 = .ok (.iaload, 1) := by decide +kernel
theorem d289_1453 : decode code 1453 = .ok (.i2c, 1) := by decide +kernel
theorem d289_1454 : decode code 1454 = .ok (.invokevirtual 239, 3) := by decide +kernel
theorem d289_1457 : decode code 1457 = .ok (.istore 7, 2) := by decide +kernel
theorem d289_1459 : decode code 1459 = .ok (.aload_n 2, 1) := by decide +kernel
theorem d289_1460 : decode code 1460 = .ok (.invokevirtual 172, 3) := by decide +kernel
theorem d289_1463 : decode code 1463 = .ok (.iload 6, 2) := by decide +kernel
theorem d289_1465 : decode code 1465 = .ok (.if_icmp .eq 5, 3) := by decide +kernel
theorem d289_1468 : decode code 1468 = .ok (.iconst 0, 1) := by decide +kernel
theorem d289_1469 : decode code 1469 = .ok (.ireturn, 1) := by decide +kernel
theorem d289_1470 : decode code 1470 = .ok (.iload 6, 2) := by decide +kernel
theorem d289_1472 : decode code 1472 = .ok (.ifCond .ne 15, 3) := by decide +kernel
theorem d289_1475 : decode code 1475 = .ok (.aload_n 3, 1) := by decide +kernel
theorem d289_1476 : decode code 1476 = .ok (.iconst 0, 1) := by decide +kernel
theorem d289_1477 : decode code 1477 = .ok (.laload, 1) := by decide +kernel
theorem d289_1478 : decode code 1478 = .ok (.iload 7, 2) := by decide +kernel
theorem d289_1480 : decode code 1480 = .ok (.i2l, 1) := by decide +kernel
theorem d289_1481 : decode code 1481 = .ok (.lcmp, 1) := by decide +kernel
theorem d289_1482 : decode code 1482 = .ok (.ifCond .eq 5, 3) := by decide +kernel
theorem d289_1485 : decode code 1485 = .ok (.iconst 0, 1) := by decide +kernel
theorem d289_1486 : decode code 1486 = .ok (.ireturn, 1) := by decide +kernel
theorem d289_1487 : decode code 1487 = .ok (.goto 1514, 3) := by decide +kernel
theorem d289_1490 : decode code 1490 = .ok (.aload_n 1, 1) := by decide +kernel
theorem d289_1491 : decode code 1491 = .ok (.aload_n 0, 1) := by decide +kernel
theorem d289_1492 : decode code 1492 = .ok (.iload 5, 2) := by decide +kernel
theorem d289_1494 : decode code 1494 = .ok (.iconst 1, 1) := by decide +kernel
theorem d289_1495 : decode code 1495 = .ok (.iadd, 1) := by decide +kernel
theorem d289_1496 : decode code 1496 = .ok (.iaload, 1) := by decide +kernel
theorem d289_1497 : decode code 1497 = .ok (.aload_n 3, 1) := by decide +kernel
theorem d289_1498 : decode code 1498 = .ok (.invokestatic 240, 3) := by decide +kernel
theorem d289_1501 : decode code 1501 = .ok (.istore 6, 2) := by decide +kernel
theorem d289_1503 : decode code 1503 = .ok (.aload_n 2, 1) := by decide +kernel
theorem d289_1504 : decode code 1504 = .ok (.aload_n 0, 1) := by decide +kernel
theorem d289_1505 : decode code 1505 = .ok (.iload 5, 2) := by decide +kernel
theorem d289_1507 : decode code 1507 = .ok (.iconst 1, 1) := by decide +kernel
theorem d289_1508 : decode code 1508 = .ok (.iadd, 1) := by decide +kernel
theorem d289_1509 : decode code 1509 = .ok (.iaload, 1) := by decide +kernel
theorem d289_1510 : decode code 1510 = .ok (.invokevirtual 242, 3) := by decide +kernel
theorem d289_1513 : decode code 1513 = .ok (.istore 7, 2) := by decide +kernel
theorem d289_1515 : decode code 1515 = .ok (.aload_n 2, 1) := by decide +kernel
theorem d289_1516 : decode code 1516 = .ok (.invokevirtual 172, 3) := by decide +kernel
theorem d289_1519 : decode code 1519 = .ok (.iload 6, 2) := by decide +kernel
theorem d289_1521 : decode code 1521 = .ok (.if_icmp .eq 5, 3) := by decide +kernel
theorem d289_1524 : decode code 1524 = .ok (.iconst 0, 1) := by decide +kernel
theorem d289_1525 : decode code 1525 = .ok (.ireturn, 1) := by decide +kernel
theorem d289_1526 : decode code 1526 = .ok (.iload 6, 2) := by decide +kernel
theorem d289_1528 : decode code 1528 = .ok (.ifCond .ne 15, 3) := by decide +kernel
theorem d289_1531 : decode code 1531 = .ok (.aload_n 3, 1) := by decide +kernel
theorem d289_1532 : decode code 1532 = .ok (.iconst 0, 1) := by decide +kernel
theorem d289_1533 : decode code 1533 = .ok (.laload, 1) := by decide +kernel
theorem d289_1534 : decode code 1534 = .ok (.iload 7, 2) := by decide +kernel
theorem d289_1536 : decode code 1536 = .ok (.i2l, 1) := by decide +kernel
theorem d289_1537 : decode code 1537 = .ok (.lcmp, 1) := by decide +kernel
theorem d289_1538 : decode code 1538 = .ok (.ifCond .eq 5, 3) := by decide +kernel
theorem d289_1541 : decode code 1541 = .ok (.iconst 0, 1) := by decide +kernel
theorem d289_1542 : decode code 1542 = .ok (.ireturn, 1) := by decide +kernel
theorem d289_1543 : decode code 1543 = .ok (.goto 1458, 3) := by decide +kernel
theorem d289_1546 : decode code 1546 = .ok (.aload_n 1, 1) := by decide +kernel
theorem d289_1547 : decode code 1547 = .ok (.aload_n 0, 1) := by decide +kernel
theorem d289_1548 : decode code 1548 = .ok (.iload 5, 2) := by decide +kernel
theorem d289_1550 : decode code 1550 = .ok (.iconst 1, 1) := by decide +kernel
theorem d289_1551 : decode code 1551 = .ok (.iadd, 1) := by decide +kernel
theorem d289_1552 : decode code 1552 = .ok (.iaload, 1) := by decide +kernel
theorem d289_1553 : decode code 1553 = .ok (.aload_n 3, 1) := by decide +kernel
theorem d289_1554 : decode code 1554 = .ok (.invokestatic 243, 3) := by decide +kernel
theorem d289_1557 : decode code 1557 = .ok (.istore 6, 2) := by decide +kernel
theorem d289_1559 : decode code 1559 = .ok (.aload_n 2, 1) := by decide +kernel
theorem d289_1560 : decode code 1560 = .ok (.aload_n 0, 1) := by decide +kernel
theorem d289_1561 : decode code 1561 = .ok (.iload 5, 2) := by decide +kernel
theorem d289_1563 : decode code 1563 = .ok (.iconst 1, 1) := by decide +kernel
theorem d289_1564 : decode code 1564 = .ok (.iadd, 1) := by decide +kernel
theorem d289_1565 : decode code 1565 = .ok (.iaload, 1) := by decide +kernel
theorem d289_1566 : decode code 1566 = .ok (.invokevirtual 245, 3) := by decide +kernel
theorem d289_1569 : decode code 1569 = .ok (.istore 7, 2) := by decide +kernel
theorem d289_1571 : decode code 1571 = .ok (.aload_n 2, 1) := by decide +kernel
theorem d289_1572 : decode code 1572 = .ok (.invokevirtual 172, 3) := by decide +kernel
theorem d289_1575 : decode code 1575 = .ok (.iload 6, 2) := by decide +kernel
theorem d289_1577 : decode code 1577 = .ok (.if_icmp .eq 5, 3) := by decide +kernel
theorem d289_1580 : decode code 1580 = .ok (.iconst 0, 1) := by decide +kernel
theorem d289_1581 : decode code 1581 = .ok (.ireturn, 1) := by decide +kernel
theorem d289_1582 : decode code 1582 = .ok (.iload 6, 2) := by decide +kernel
theorem d289_1584 : decode code 1584 = .ok (.ifCond .ne 15, 3) := by decide +kernel
theorem d289_1587 : decode code 1587 = .ok (.aload_n 3, 1) := by decide +kernel
theorem d289_1588 : decode code 1588 = .ok (.iconst 0, 1) := by decide +kernel
theorem d289_1589 : decode code 1589 = .ok (.laload, 1) := by decide +kernel
theorem d289_1590 : decode code 1590 = .ok (.iload 7, 2) := by decide +kernel
theorem d289_1592 : decode code 1592 = .ok (.i2l, 1) := by decide +kernel
theorem d289_1593 : decode code 1593 = .ok (.lcmp, 1) := by decide +kernel
theorem d289_1594 : decode code 1594 = .ok (.ifCond .eq 5, 3) := by decide +kernel
theorem d289_1597 : decode code 1597 = .ok (.iconst 0, 1) := by decide +kernel
theorem d289_1598 : decode code 1598 = .ok (.ireturn, 1) := by decide +kernel
theorem d289_1599 : decode code 1599 = .ok (.goto 1402, 3) := by decide +kernel
theorem d289_1602 : decode code 1602 = .ok (.aload_n 1, 1) := by decide +kernel
theorem d289_1603 : decode code 1603 = .ok (.aload_n 0, 1) := by decide +kernel
theorem d289_1604 : decode code 1604 = .ok (.iload 5, 2) := by decide +kernel
theorem d289_1606 : decode code 1606 = .ok (.iconst 1, 1) := by decide +kernel
theorem d289_1607 : decode code 1607 = .ok (.iadd, 1) := by decide +kernel
theorem d289_1608 : decode code 1608 = .ok (.iaload, 1) := by decide +kernel
theorem d289_1609 : decode code 1609 = .ok (.aload_n 3, 1) := by decide +kernel
theorem d289_1610 : decode code 1610 = .ok (.invokestatic 246, 3) := by decide +kernel
theorem d289_1613 : decode code 1613 = .ok (.istore 6, 2) := by decide +kernel
theorem d289_1615 : decode code 1615 = .ok (.aload_n 2, 1) := by decide +kernel
theorem d289_1616 : decode code 1616 = .ok (.aload_n 0, 1) := by decide +kernel
theorem d289_1617 : decode code 1617 = .ok (.iload 5, 2) := by decide +kernel
theorem d289_1619 : decode code 1619 = .ok (.iconst 1, 1) := by decide +kernel
theorem d289_1620 : decode code 1620 = .ok (.iadd, 1) := by decide +kernel
theorem d289_1621 : decode code 1621 = .ok (.iaload, 1) := by decide +kernel
theorem d289_1622 : decode code 1622 = .ok (.invokevirtual 248, 3) := by decide +kernel
theorem d289_1625 : decode code 1625 = .ok (.istore 7, 2) := by decide +kernel
theorem d289_1627 : decode code 1627 = .ok (.aload_n 2, 1) := by decide +kernel
theorem d289_1628 : decode code 1628 = .ok (.invokevirtual 172, 3) := by decide +kernel
theorem d289_1631 : decode code 1631 = .ok (.iload 6, 2) := by decide +kernel
theorem d289_1633 : decode code 1633 = .ok (.if_icmp .eq 5, 3) := by decide +kernel
theorem d289_1636 : decode code 1636 = .ok (.iconst 0, 1) := by decide +kernel
theorem d289_1637 : decode code 1637 = .ok (.ireturn, 1) := by decide +kernel
theorem d289_1638 : decode code 1638 = .ok (.iload 6, 2) := by decide +kernel
theorem d289_1640 : decode code 1640 = .ok (.ifCond .ne 15, 3) := by decide +kernel
theorem d289_1643 : decode code 1643 = .ok (.aload_n 3, 1) := by decide +kernel
theorem d289_1644 : decode code 1644 = .ok (.iconst 0, 1) := by decide +kernel
theorem d289_1645 : decode code 1645 = .ok (.laload, 1) := by decide +kernel
theorem d289_1646 : decode code 1646 = .ok (.iload 7, 2) := by decide +kernel
theorem d289_1648 : decode code 1648 = .ok (.i2l, 1) := by decide +kernel
theorem d289_1649 : decode code 1649 = .ok (.lcmp, 1) := by decide +kernel
theorem d289_1650 : decode code 1650 = .ok (.ifCond .eq 5, 3) := by decide +kernel
theorem d289_1653 : decode code 1653 = .ok (.iconst 0, 1) := by decide +kernel
theorem d289_1654 : decode code 1654 = .ok (.ireturn, 1) := by decide +kernel
theorem d289_1655 : decode code 1655 = .ok (.goto 1346, 3) := by decide +kernel
theorem d289_1658 : decode code 1658 = .ok (.aload_n 1, 1) := by decide +kernel
theorem d289_1659 : decode code 1659 = .ok (.aload_n 0, 1) := by decide +kernel
theorem d289_1660 : decode code 1660 = .ok (.iload 5, 2) := by decide +kernel
theorem d289_1662 : decode code 1662 = .ok (.iconst 1, 1) := by decide +kernel
theorem d289_1663 : decode code 1663 = .ok (.iadd, 1) := by decide +kernel
theorem d289_1664 : decode code 1664 = .ok (.iaload, 1) := by decide +kernel
theorem d289_1665 : decode code 1665 = .ok (.aload_n 3, 1) := by decide +kernel
theorem d289_1666 : decode code 1666 = .ok (.invokestatic 249, 3) := by decide +kernel
theorem d289_1669 : decode code 1669 = .ok (.istore 6, 2) := by decide +kernel
theorem d289_1671 : decode code 1671 = .ok (.aload_n 2, 1) := by decide +kernel
theorem d289_1672 : decode code 1672 = .ok (.aload_n 0, 1) := by decide +kernel
theorem d289_1673 : decode code 1673 = .ok (.iload 5, 2) := by decide +kernel
theorem d289_1675 : decode code 1675 = .ok (.iconst 1, 1) := by decide +kernel
theorem d289_1676 : decode code 1676 = .ok (.iadd, 1) := by decide +kernel
theorem d289_1677 : decode code 1677 = .ok (.iaload, 1) := by decide +kernel
theorem d289_1678 : decode code 1678 = .ok (.invokevirtual 251, 3) := by decide +kernel
theorem d289_1681 : decode code 1681 = .ok (.istore 7, 2) := by decide +kernel
theorem d289_1683 : decode code 1683 = .ok (.aload_n 2, 1) := by decide +kernel
theorem d289_1684 : decode code 1684 = .ok (.invokevirtual 172, 3) := by decide +kernel
theorem d289_1687 : decode code 1687 = .ok (.iload 6, 2) := by decide +kernel
theorem d289_1689 : decode code 1689 = .ok (.if_icmp .eq 5, 3) := by decide +kernel
theorem d289_1692 : decode code 1692 = .ok (.iconst 0, 1) := by decide +kernel
theorem d289_1693 : decode code 1693 = .ok (.ireturn, 1) := by decide +kernel
theorem d289_1694 : decode code 1694 = .ok (.iload 6, 2) := by decide +kernel
theorem d289_1696 : decode code 1696 = .ok (.ifCond .ne 15, 3) := by decide +kernel
theorem d289_1699 : decode code 1699 = .ok (.aload_n 3, 1) := by decide +kernel
theorem d289_1700 : decode code 1700 = .ok (.iconst 0, 1) := by decide +kernel
theorem d289_1701 : decode code 1701 = .ok (.laload, 1) := by decide +kernel
theorem d289_1702 : decode code 1702 = .ok (.iload 7, 2) := by decide +kernel
theorem d289_1704 : decode code 1704 = .ok (.i2l, 1) := by decide +kernel
theorem d289_1705 : decode code 1705 = .ok (.lcmp, 1) := by decide +kernel
theorem d289_1706 : decode code 1706 = .ok (.ifCond .eq 5, 3) := by decide +kernel
theorem d289_1709 : decode code 1709 = .ok (.iconst 0, 1) := by decide +kernel
theorem d289_1710 : decode code 1710 = .ok (.ireturn, 1) := by decide +kernel
theorem d289_1711 : decode code 1711 = .ok (.goto 1290, 3) := by decide +kernel
theorem d289_1714 : decode code 1714 = .ok (.aload_n 1, 1) := by decide +kernel
theorem d289_1715 : decode code 1715 = .ok (.aload_n 0, 1) := by decide +kernel
theorem d289_1716 : decode code 1716 = .ok (.iload 5, 2) := by decide +kernel
theorem d289_1718 : decode code 1718 = .ok (.iconst 1, 1) := by decide +kernel
theorem d289_1719 : decode code 1719 = .ok (.iadd, 1) := by decide +kernel
theorem d289_1720 : decode code 1720 = .ok (.iaload, 1) := by decide +kernel
theorem d289_1721 : decode code 1721 = .ok (.aload_n 3, 1) := by decide +kernel
theorem d289_1722 : decode code 1722 = .ok (.invokestatic 252, 3) := by decide +kernel
theorem d289_1725 : decode code 1725 = .ok (.istore 6, 2) := by decide +kernel
theorem d289_1727 : decode code 1727 = .ok (.aload_n 2, 1) := by decide +kernel
theorem d289_1728 : decode code 1728 = .ok (.aload_n 0, 1) := by decide +kernel
theorem d289_1729 : decode code 1729 = .ok (.iload 5, 2) := by decide +kernel
theorem d289_1731 : decode code 1731 = .ok (.iconst 1, 1) := by decide +kernel
theorem d289_1732 : decode code 1732 = .ok (.iadd, 1) := by decide +kernel
theorem d289_1733 : decode code 1733 = .ok (.iaload, 1) := by decide +kernel
theorem d289_1734 : decode code 1734 = .ok (.invokevirtual 254, 3) := by decide +kernel
theorem d289_1737 : decode code 1737 = .ok (.istore 7, 2) := by decide +kernel
theorem d289_1739 : decode code 1739 = .ok (.aload_n 2, 1) := by decide +kernel
theorem d289_1740 : decode code 1740 = .ok (.invokevirtual 172, 3) := by decide +kernel
theorem d289_1743 : decode code 1743 = .ok (.iload 6, 2) := by decide +kernel
theorem d289_1745 : decode code 1745 = .ok (.if_icmp .eq 5, 3) := by decide +kernel
theorem d289_1748 : decode code 1748 = .ok (.iconst 0, 1) := by decide +kernel
theorem d289_1749 : decode code 1749 = .ok (.ireturn, 1) := by decide +kernel
theorem d289_1750 : decode code 1750 = .ok (.iload 6, 2) := by decide +kernel
theorem d289_1752 : decode code 1752 = .ok (.ifCond .ne 15, 3) := by decide +kernel
theorem d289_1755 : decode code 1755 = .ok (.aload_n 3, 1) := by decide +kernel
theorem d289_1756 : decode code 1756 = .ok (.iconst 0, 1) := by decide +kernel
theorem d289_1757 : decode code 1757 = .ok (.laload, 1) := by decide +kernel
theorem d289_1758 : decode code 1758 = .ok (.iload 7, 2) := by decide +kernel
theorem d289_1760 : decode code 1760 = .ok (.i2l, 1) := by decide +kernel
theorem d289_1761 : decode code 1761 = .ok (.lcmp, 1) := by decide +kernel
theorem d289_1762 : decode code 1762 = .ok (.ifCond .eq 5, 3) := by decide +kernel
theorem d289_1765 : decode code 1765 = .ok (.iconst 0, 1) := by decide +kernel
theorem d289_1766 : decode code 1766 = .ok (.ireturn, 1) := by decide +kernel
theorem d289_1767 : decode code 1767 = .ok (.goto 1234, 3) := by decide +kernel
theorem d289_1770 : decode code 1770 = .ok (.aload_n 1, 1) := by decide +kernel
theorem d289_1771 : decode code 1771 = .ok (.aload_n 0, 1) := by decide +kernel
theorem d289_1772 : decode code 1772 = .ok (.iload 5, 2) := by decide +kernel
theorem d289_1774 : decode code 1774 = .ok (.iconst 1, 1) := by decide +kernel
theorem d289_1775 : decode code 1775 = .ok (.iadd, 1) := by decide +kernel
theorem d289_1776 : decode code 1776 = .ok (.iaload, 1) := by decide +kernel
theorem d289_1777 : decode code 1777 = .ok (.aload_n 3, 1) := by decide +kernel
theorem d289_1778 : decode code 1778 = .ok (.invokestatic 255, 3) := by decide +kernel
theorem d289_1781 : decode code 1781 = .ok (.istore 6, 2) := by decide +kernel
theorem d289_1783 : decode code 1783 = .ok (.aload_n 2, 1) := by decide +kernel
theorem d289_1784 : decode code 1784 = .ok (.aload_n 0, 1) := by decide +kernel
theorem d289_1785 : decode code 1785 = .ok (.iload 5, 2) := by decide +kernel
theorem d289_1787 : decode code 1787 = .ok (.iconst 1, 1) := by decide +kernel
theorem d289_1788 : decode code 1788 = .ok (.iadd, 1) := by decide +kernel
theorem d289_1789 : decode code 1789 = .ok (.iaload, 1) := by decide +kernel
theorem d289_1790 : decode code 1790 = .ok (.invokevirtual 257, 3) := by decide +kernel
theorem d289_1793 : decode code 1793 = .ok (.istore 7, 2) := by decide +kernel
theorem d289_1795 : decode code 1795 = .ok (.aload_n 2, 1) := by decide +kernel
theorem d289_1796 : decode code 1796 = .ok (.invokevirtual 172, 3) := by decide +kernel
theorem d289_1799 : decode code 1799 = .ok (.iload 6, 2) := by decide +kernel
theorem d289_1801 : decode code 1801 = .ok (.if_icmp .eq 5, 3) := by decide +kernel
theorem d289_1804 : decode code 1804 = .ok (.iconst 0, 1) := by decide +kernel
theorem d289_1805 : decode code 1805 = .ok (.ireturn, 1) := by decide +kernel
theorem d289_1806 : decode code 1806 = .ok (.iload 6, 2) := by decide +kernel
theorem d289_1808 : decode code 1808 = .ok (.ifCond .ne 22, 3) := by decide +kernel
theorem d289_1811 : decode code 1811 = .ok (.aload_n 3, 1) := by decide +kernel
theorem d289_1812 : decode code 1812 = .ok (.iconst 0, 1) := by decide +kernel
theorem d289_1813 : decode code 1813 = .ok (.laload, 1) := by decide +kernel
theorem d289_1814 : decode code 1814 = .ok (.iload 7, 2) := by decide +kernel
theorem d289_1816 : decode code 1816 = .ok (.ifCond .eq 7, 3) := by decide +kernel
theorem d289_1819 : decode code 1819 = .ok (.lconst 1, 1) := by decide +kernel
theorem d289_1820 : decode code 1820 = .ok (.goto 4, 3) := by decide +kernel
theorem d289_1823 : decode code 1823 = .ok (.lconst 0, 1) := by decide +kernel
theorem d289_1824 : decode code 1824 = .ok (.lcmp, 1) := by decide +kernel
theorem d289_1825 : decode code 1825 = .ok (.ifCond .eq 5, 3) := by decide +kernel
theorem d289_1828 : decode code 1828 = .ok (.iconst 0, 1) := by decide +kernel
theorem d289_1829 : decode code 1829 = .ok (.ireturn, 1) := by decide +kernel
theorem d289_1830 : decode code 1830 = .ok (.goto 1171, 3) := by decide +kernel
theorem d289_1833 : decode code 1833 = .ok (.aload_n 1, 1) := by decide +kernel
theorem d289_1834 : decode code 1834 = .ok (.aload_n 0, 1) := by decide +kernel
theorem d289_1835 : decode code 1835 = .ok (.iload 5, 2) := by decide +kernel
theorem d289_1837 : decode code 1837 = .ok (.iconst 1, 1) := by decide +kernel
theorem d289_1838 : decode code 1838 = .ok (.iadd, 1) := by decide +kernel
theorem d289_1839 : decode code 1839 = .ok (.iaload, 1) := by decide +kernel
theorem d289_1840 : decode code 1840 = .ok (.aload_n 3, 1) := by decide +kernel
theorem d289_1841 : decode code 1841 = .ok (.invokestatic 258, 3) := by decide +kernel
theorem d289_1844 : decode code 1844 = .ok (.istore 6, 2) := by decide +kernel
theorem d289_1846 : decode code 1846 = .ok (.aload_n 2, 1) := by decide +kernel
theorem d289_1847 : decode code 1847 = .ok (.aload_n 0, 1) := by decide +kernel
theorem d289_1848 : decode code 1848 = .ok (.iload 5, 2) := by decide +kernel
theorem d289_1850 : decode code 1850 = .ok (.iconst 1, 1) := by decide +kernel
theorem d289_1851 : decode code 1851 = .ok (.iadd, 1) := by decide +kernel
theorem d289_1852 : decode code 1852 = .ok (.iaload, 1) := by decide +kernel
theorem d289_1853 : decode code 1853 = .ok (.invokevirtual 260, 3) := by decide +kernel
theorem d289_1856 : decode code 1856 = .ok (.istore 7, 2) := by decide +kernel
theorem d289_1858 : decode code 1858 = .ok (.aload_n 2, 1) := by decide +kernel
theorem d289_1859 : decode code 1859 = .ok (.invokevirtual 172, 3) := by decide +kernel
theorem d289_1862 : decode code 1862 = .ok (.iload 6, 2) := by decide +kernel
theorem d289_1864 : decode code 1864 = .ok (.if_icmp .eq 5, 3) := by decide +kernel
theorem d289_1867 : decode code 1867 = .ok (.iconst 0, 1) := by decide +kernel
theorem d289_1868 : decode code 1868 = .ok (.ireturn, 1) := by decide +kernel
theorem d289_1869 : decode code 1869 = .ok (.iload 6, 2) := by decide +kernel
theorem d289_1871 : decode code 1871 = .ok (.ifCond .ne 15, 3) := by decide +kernel
theorem d289_1874 : decode code 1874 = .ok (.aload_n 3, 1) := by decide +kernel
theorem d289_1875 : decode code 1875 = .ok (.iconst 0, 1) := by decide +kernel
theorem d289_1876 : decode code 1876 = .ok (.laload, 1) := by decide +kernel
theorem d289_1877 : decode code 1877 = .ok (.iload 7, 2) := by decide +kernel
theorem d289_1879 : decode code 1879 = .ok (.i2l, 1) := by decide +kernel
theorem d289_1880 : decode code 1880 = .ok (.lcmp, 1) := by decide +kernel
theorem d289_1881 : decode code 1881 = .ok (.ifCond .eq 5, 3) := by decide +kernel
theorem d289_1884 : decode code 1884 = .ok (.iconst 0, 1) := by decide +kernel
theorem d289_1885 : decode code 1885 = .ok (.ireturn, 1) := by decide +kernel
theorem d289_1886 : decode code 1886 = .ok (.goto 1115, 3) := by decide +kernel
theorem d289_1889 : decode code 1889 = .ok (.aload_n 1, 1) := by decide +kernel
theorem d289_1890 : decode code 1890 = .ok (.aload_n 0, 1) := by decide +kernel
theorem d289_1891 : decode code 1891 = .ok (.iload 5, 2) := by decide +kernel
theorem d289_1893 : decode code 1893 = .ok (.iconst 1, 1) := by decide +kernel
theorem d289_1894 : decode code 1894 = .ok (.iadd, 1) := by decide +kernel
theorem d289_1895 : decode code 1895 = .ok (.iaload, 1) := by decide +kernel
theorem d289_1896 : decode code 1896 = .ok (.aload_n 0, 1) := by decide +kernel
theorem d289_1897 : decode code 1897 = .ok (.iload 5, 2) := by decide +kernel
theorem d289_1899 : decode code 1899 = .ok (.iconst 2, 1) := by decide +kernel
theorem d289_1900 : decode code 1900 = .ok (.iadd, 1) := by decide +kernel
theorem d289_1901 : decode code 1901 = .ok (.iaload, 1) := by decide +kernel
theorem d289_1902 : decode code 1902 = .ok (.aload_n 3, 1) := by decide +kernel
theorem d289_1903 : decode code 1903 = .ok (.invokestatic 261, 3) := by decide +kernel
theorem d289_1906 : decode code 1906 = .ok (.istore 6, 2) := by decide +kernel
theorem d289_1908 : decode code 1908 = .ok (.aload_n 2, 1) := by decide +kernel
theorem d289_1909 : decode code 1909 = .ok (.aload_n 0, 1) := by decide +kernel
theorem d289_1910 : decode code 1910 = .ok (.iload 5, 2) := by decide +kernel
theorem d289_1912 : decode code 1912 = .ok (.iconst 1, 1) := by decide +kernel
theorem d289_1913 : decode code 1913 = .ok (.iadd, 1) := by decide +kernel
theorem d289_1914 : decode code 1914 = .ok (.iaload, 1) := by decide +kernel
theorem d289_1915 : decode code 1915 = .ok (.aload_n 0, 1) := by decide +kernel
theorem d289_1916 : decode code 1916 = .ok (.iload 5, 2) := by decide +kernel
theorem d289_1918 : decode code 1918 = .ok (.iconst 2, 1) := by decide +kernel
theorem d289_1919 : decode code 1919 = .ok (.iadd, 1) := by decide +kernel
theorem d289_1920 : decode code 1920 = .ok (.iaload, 1) := by decide +kernel
theorem d289_1921 : decode code 1921 = .ok (.invokevirtual 263, 3) := by decide +kernel
theorem d289_1924 : decode code 1924 = .ok (.istore 7, 2) := by decide +kernel
theorem d289_1926 : decode code 1926 = .ok (.aload_n 2, 1) := by decide +kernel
theorem d289_1927 : decode code 1927 = .ok (.invokevirtual 172, 3) := by decide +kernel
theorem d289_1930 : decode code 1930 = .ok (.iload 6, 2) := by decide +kernel
theorem d289_1932 : decode code 1932 = .ok (.if_icmp .eq 5, 3) := by decide +kernel
theorem d289_1935 : decode code 1935 = .ok (.iconst 0, 1) := by decide +kernel
theorem d289_1936 : decode code 1936 = .ok (.ireturn, 1) := by decide +kernel
theorem d289_1937 : decode code 1937 = .ok (.iload 6, 2) := by decide +kernel
theorem d289_1939 : decode code 1939 = .ok (.ifCond .ne 22, 3) := by decide +kernel
theorem d289_1942 : decode code 1942 = .ok (.aload_n 3, 1) := by decide +kernel
theorem d289_1943 : decode code 1943 = .ok (.iconst 0, 1) := by decide +kernel
theorem d289_1944 : decode code 1944 = .ok (.laload, 1) := by decide +kernel
theorem d289_1945 : decode code 1945 = .ok (.iload 7, 2) := by decide +kernel
theorem d289_1947 : decode code 1947 = .ok (.ifCond .eq 7, 3) := by decide +kernel
theorem d289_1950 : decode code 1950 = .ok (.lconst 1, 1) := by decide +kernel
theorem d289_1951 : decode code 1951 = .ok (.goto 4, 3) := by decide +kernel
theorem d289_1954 : decode code 1954 = .ok (.lconst 0, 1) := by decide +kernel
theorem d289_1955 : decode code 1955 = .ok (.lcmp, 1) := by decide +kernel
theorem d289_1956 : decode code 1956 = .ok (.ifCond .eq 5, 3) := by decide +kernel
theorem d289_1959 : decode code 1959 = .ok (.iconst 0, 1) := by decide +kernel
theorem d289_1960 : decode code 1960 = .ok (.ireturn, 1) := by decide +kernel
theorem d289_1961 : decode code 1961 = .ok (.goto 1040, 3) := by decide +kernel
theorem d289_1964 : decode code 1964 = .ok (.aload_n 1, 1) := by decide +kernel
theorem d289_1965 : decode code 1965 = .ok (.aload_n 0, 1) := by decide +kernel
theorem d289_1966 : decode code 1966 = .ok (.iload 5, 2) := by decide +kernel
theorem d289_1968 : decode code 1968 = .ok (.iconst 1, 1) := by decide +kernel
theorem d289_1969 : decode code 1969 = .ok (.iadd, 1) := by decide +kernel
theorem d289_1970 : decode code 1970 = .ok (.iaload, 1) := by decide +kernel
theorem d289_1971 : decode code 1971 = .ok (.aload_n 0, 1) := by decide +kernel
theorem d289_1972 : decode code 1972 = .ok (.iload 5, 2) := by decide +kernel
theorem d289_1974 : decode code 1974 = .ok (.iconst 2, 1) := by decide +kernel
theorem d289_1975 : decode code 1975 = .ok (.iadd, 1) := by decide +kernel
theorem d289_1976 : decode code 1976 = .ok (.iaload, 1) := by decide +kernel
theorem d289_1977 : decode code 1977 = .ok (.aload_n 3, 1) := by decide +kernel
theorem d289_1978 : decode code 1978 = .ok (.invokestatic 264, 3) := by decide +kernel
theorem d289_1981 : decode code 1981 = .ok (.istore 6, 2) := by decide +kernel
theorem d289_1983 : decode code 1983 = .ok (.aload_n 2, 1) := by decide +kernel
theorem d289_1984 : decode code 1984 = .ok (.aload_n 0, 1) := by decide +kernel
theorem d289_1985 : decode code 1985 = .ok (.iload 5, 2) := by decide +kernel
theorem d289_1987 : decode code 1987 = .ok (.iconst 1, 1) := by decide +kernel
theorem d289_1988 : decode code 1988 = .ok (.iadd, 1) := by decide +kernel
theorem d289_1989 : decode code 1989 = .ok (.iaload, 1) := by decide +kernel
theorem d289_1990 : decode code 1990 = .ok (.aload_n 0, 1) := by decide +kernel
theorem d289_1991 : decode code 1991 = .ok (.iload 5, 2) := by decide +kernel
theorem d289_1993 : decode code 1993 = .ok (.iconst 2, 1) := by decide +kernel
theorem d289_1994 : decode code 1994 = .ok (.iadd, 1) := by decide +kernel
theorem d289_1995 : decode code 1995 = .ok (.iaload, 1) := by decide +kernel
theorem d289_1996 : decode code 1996 = .ok (.invokevirtual 266, 3) := by decide +kernel
theorem d289_1999 : decode code 1999 = .ok (.istore 7, 2) := by decide +kernel
theorem d289_2001 : decode code 2001 = .ok (.aload_n 2, 1) := by decide +kernel
theorem d289_2002 : decode code 2002 = .ok (.invokevirtual 172, 3) := by decide +kernel
theorem d289_2005 : decode code 2005 = .ok (.iload 6, 2) := by decide +kernel
theorem d289_2007 : decode code 2007 = .ok (.if_icmp .eq 5, 3) := by decide +kernel
theorem d289_2010 : decode code 2010 = .ok (.iconst 0, 1) := by decide +kernel
theorem d289_2011 : decode code 2011 = .ok (.ireturn, 1) := by decide +kernel
theorem d289_2012 : decode code 2012 = .ok (.iload 6, 2) := by decide +kernel
theorem d289_2014 : decode code 2014 = .ok (.ifCond .ne 15, 3) := by decide +kernel
theorem d289_2017 : decode code 2017 = .ok (.aload_n 3, 1) := by decide +kernel
theorem d289_2018 : decode code 2018 = .ok (.iconst 0, 1) := by decide +kernel
theorem d289_2019 : decode code 2019 = .ok (.laload, 1) := by decide +kernel
theorem d289_2020 : decode code 2020 = .ok (.iload 7, 2) := by decide +kernel
theorem d289_2022 : decode code 2022 = .ok (.i2l, 1) := by decide +kernel
theorem d289_2023 : decode code 2023 = .ok (.lcmp, 1) := by decide +kernel
theorem d289_2024 : decode code 2024 = .ok (.ifCond .eq 5, 3) := by decide +kernel
theorem d289_2027 : decode code 2027 = .ok (.iconst 0, 1) := by decide +kernel
theorem d289_2028 : decode code 2028 = .ok (.ireturn, 1) := by decide +kernel
theorem d289_2029 : decode code 2029 = .ok (.goto 972, 3) := by decide +kernel
theorem d289_2032 : decode code 2032 = .ok (.aload_n 1, 1) := by decide +kernel
theorem d289_2033 : decode code 2033 = .ok (.aload_n 0, 1) := by decide +kernel
theorem d289_2034 : decode code 2034 = .ok (.iload 5, 2) := by decide +kernel
theorem d289_2036 : decode code 2036 = .ok (.iconst 1, 1) := by decide +kernel
theorem d289_2037 : decode code 2037 = .ok (.iadd, 1) := by decide +kernel
theorem d289_2038 : decode code 2038 = .ok (.iaload, 1) := by decide +kernel
theorem d289_2039 : decode code 2039 = .ok (.aload_n 3, 1) := by decide +kernel
theorem d289_2040 : decode code 2040 = .ok (.invokestatic 267, 3) := by decide +kernel
theorem d289_2043 : decode code 2043 = .ok (.istore 6, 2) := by decide +kernel
theorem d289_2045 : decode code 2045 = .ok (.aload_n 2, 1) := by decide +kernel
theorem d289_2046 : decode code 2046 = .ok (.aload_n 0, 1) := by decide +kernel
theorem d289_2047 : decode code 2047 = .ok (.iload 5, 2) := by decide +kernel
theorem d289_2049 : decode code 2049 = .ok (.iconst 1, 1) := by decide +kernel
theorem d289_2050 : decode code 2050 = .ok (.iadd, 1) := by decide +kernel
theorem d289_2051 : decode code 2051 = .ok (.iaload, 1) := by decide +kernel
theorem d289_2052 : decode code 2052 = .ok (.invokevirtual 269, 3) := by decide +kernel
theorem d289_2055 : decode code 2055 = .ok (.istore 7, 2) := by decide +kernel
theorem d289_2057 : decode code 2057 = .ok (.aload_n 2, 1) := by decide +kernel
theorem d289_2058 : decode code 2058 = .ok (.invokevirtual 172, 3) := by decide +kernel
theorem d289_2061 : decode code 2061 = .ok (.iload 6, 2) := by decide +kernel
theorem d289_2063 : decode code 2063 = .ok (.if_icmp .eq 5, 3) := by decide +kernel
theorem d289_2066 : decode code 2066 = .ok (.iconst 0, 1) := by decide +kernel
theorem d289_2067 : decode code 2067 = .ok (.ireturn, 1) := by decide +kernel
theorem d289_2068 : decode code 2068 = .ok (.iload 6, 2) := by decide +kernel
theorem d289_2070 : decode code 2070 = .ok (.ifCond .ne 15, 3) := by decide +kernel
theorem d289_2073 : decode code 2073 = .ok (.aload_n 3, 1) := by decide +kernel
theorem d289_2074 : decode code 2074 = .ok (.iconst 0, 1) := by decide +kernel
theorem d289_2075 : decode code 2075 = .ok (.laload, 1) := by decide +kernel
theorem d289_2076 : decode code 2076 = .ok (.iload 7, 2) := by decide +kernel
theorem d289_2078 : decode code 2078 = .ok (.i2l, 1) := by decide +kernel
theorem d289_2079 : decode code 2079 = .ok (.lcmp, 1) := by decide +kernel
theorem d289_2080 : decode code 2080 = .ok (.ifCond .eq 5, 3) := by decide +kernel
theorem d289_2083 : decode code 2083 = .ok (.iconst 0, 1) := by decide +kernel
theorem d289_2084 : decode code 2084 = .ok (.ireturn, 1) := by decide +kernel
theorem d289_2085 : decode code 2085 = .ok (.goto 916, 3) := by decide +kernel
theorem d289_2088 : decode code 2088 = .ok (.aload_n 1, 1) := by decide +kernel
theorem d289_2089 : decode code 2089 = .ok (.aload_n 0, 1) := by decide +kernel
theorem d289_2090 : decode code 2090 = .ok (.iload 5, 2) := by decide +kernel
theorem d289_2092 : decode code 2092 = .ok (.iconst 1, 1) := by decide +kernel
theorem d289_2093 : decode code 2093 = .ok (.iadd, 1) := by decide +kernel
theorem d289_2094 : decode code 2094 = .ok (.iaload, 1) := by decide +kernel
theorem d289_2095 : decode code 2095 = .ok (.aload_n 3, 1) := by decide +kernel
theorem d289_2096 : decode code 2096 = .ok (.invokestatic 270, 3) := by decide +kernel
theorem d289_2099 : decode code 2099 = .ok (.istore 6, 2) := by decide +kernel
theorem d289_2101 : decode code 2101 = .ok (.aload_n 2, 1) := by decide +kernel
theorem d289_2102 : decode code 2102 = .ok (.aload_n 0, 1) := by decide +kernel
theorem d289_2103 : decode code 2103 = .ok (.iload 5, 2) := by decide +kernel
theorem d289_2105 : decode code 2105 = .ok (.iconst 1, 1) := by decide +kernel
theorem d289_2106 : decode code 2106 = .ok (.iadd, 1) := by decide +kernel
theorem d289_2107 : decode code 2107 = .ok (.iaload, 1) := by decide +kernel
theorem d289_2108 : decode code 2108 = .ok (.invokevirtual 272, 3) := by decide +kernel
theorem d289_2111 : decode code 2111 = .ok (.istore 7, 2) := by decide +kernel
theorem d289_2113 : decode code 2113 = .ok (.aload_n 2, 1) := by decide +kernel
theorem d289_2114 : decode code 2114 = .ok (.invokevirtual 172, 3) := by decide +kernel
theorem d289_2117 : decode code 2117 = .ok (.iload 6, 2) := by decide +kernel
theorem d289_2119 : decode code 2119 = .ok (.if_icmp .eq 5, 3) := by decide +kernel
theorem d289_2122 : decode code 2122 = .ok (.iconst 0, 1) := by decide +kernel
theorem d289_2123 : decode code 2123 = .ok (.ireturn, 1) := by decide +kernel
theorem d289_2124 : decode code 2124 = .ok (.iload 6, 2) := by decide +kernel
theorem d289_2126 : decode code 2126 = .ok (.ifCond .ne 15, 3) := by decide +kernel
theorem d289_2129 : decode code 2129 = .ok (.aload_n 3, 1) := by decide +kernel
theorem d289_2130 : decode code 2130 = .ok (.iconst 0, 1) := by decide +kernel
theorem d289_2131 : decode code 2131 = .ok (.laload, 1) := by decide +kernel
theorem d289_2132 : decode code 2132 = .ok (.iload 7, 2) := by decide +kernel
theorem d289_2134 : decode code 2134 = .ok (.i2l, 1) := by decide +kernel
theorem d289_2135 : decode code 2135 = .ok (.lcmp, 1) := by decide +kernel
theorem d289_2136 : decode code 2136 = .ok (.ifCond .eq 5, 3) := by decide +kernel
theorem d289_2139 : decode code 2139 = .ok (.iconst 0, 1) := by decide +kernel
theorem d289_2140 : decode code 2140 = .ok (.ireturn, 1) := by decide +kernel
theorem d289_2141 : decode code 2141 = .ok (.goto 860, 3) := by decide +kernel
theorem d289_2144 : decode code 2144 = .ok (.aload_n 1, 1) := by decide +kernel
theorem d289_2145 : decode code 2145 = .ok (.aload_n 0, 1) := by decide +kernel
theorem d289_2146 : decode code 2146 = .ok (.iload 5, 2) := by decide +kernel
theorem d289_2148 : decode code 2148 = .ok (.iconst 1, 1) := by decide +kernel
theorem d289_2149 : decode code 2149 = .ok (.iadd, 1) := by decide +kernel
theorem d289_2150 : decode code 2150 = .ok (.iaload, 1) := by decide +kernel
theorem d289_2151 : decode code 2151 = .ok (.aload_n 3, 1) := by decide +kernel
theorem d289_2152 : decode code 2152 = .ok (.invokestatic 273, 3) := by decide +kernel
theorem d289_2155 : decode code 2155 = .ok (.istore 6, 2) := by decide +kernel
theorem d289_2157 : decode code 2157 = .ok (.aload_n 2, 1) := by decide +kernel
theorem d289_2158 : decode code 2158 = .ok (.aload_n 0, 1) := by decide +kernel
theorem d289_2159 : decode code 2159 = .ok (.iload 5, 2) := by decide +kernel
theorem d289_2161 : decode code 2161 = .ok (.iconst 1, 1) := by decide +kernel
theorem d289_2162 : decode code 2162 = .ok (.iadd, 1) := by decide +kernel
theorem d289_2163 : decode code 2163 = .ok (.iaload, 1) := by decide +kernel
theorem d289_2164 : decode code 2164 = .ok (.invokevirtual 275, 3) := by decide +kernel
theorem d289_2167 : decode code 2167 = .ok (.istore 7, 2) := by decide +kernel
theorem d289_2169 : decode code 2169 = .ok (.aload_n 2, 1) := by decide +kernel
theorem d289_2170 : decode code 2170 = .ok (.invokevirtual 172, 3) := by decide +kernel
theorem d289_2173 : decode code 2173 = .ok (.iload 6, 2) := by decide +kernel
theorem d289_2175 : decode code 2175 = .ok (.if_icmp .eq 5, 3) := by decide +kernel
theorem d289_2178 : decode code 2178 = .ok (.iconst 0, 1) := by decide +kernel
theorem d289_2179 : decode code 2179 = .ok (.ireturn, 1) := by decide +kernel
theorem d289_2180 : decode code 2180 = .ok (.iload 6, 2) := by decide +kernel
theorem d289_2182 : decode code 2182 = .ok (.ifCond .ne 15, 3) := by decide +kernel
theorem d289_2185 : decode code 2185 = .ok (.aload_n 3, 1) := by decide +kernel
theorem d289_2186 : decode code 2186 = .ok (.iconst 0, 1) := by decide +kernel
theorem d289_2187 : decode code 2187 = .ok (.laload, 1) := by decide +kernel
theorem d289_2188 : decode code 2188 = .ok (.iload 7, 2) := by decide +kernel
theorem d289_2190 : decode code 2190 = .ok (.i2l, 1) := by decide +kernel
theorem d289_2191 : decode code 2191 = .ok (.lcmp, 1) := by decide +kernel
theorem d289_2192 : decode code 2192 = .ok (.ifCond .eq 5, 3) := by decide +kernel
theorem d289_2195 : decode code 2195 = .ok (.iconst 0, 1) := by decide +kernel
theorem d289_2196 : decode code 2196 = .ok (.ireturn, 1) := by decide +kernel
theorem d289_2197 : decode code 2197 = .ok (.goto 804, 3) := by decide +kernel
theorem d289_2200 : decode code 2200 = .ok (.aload_n 1, 1) := by decide +kernel
theorem d289_2201 : decode code 2201 = .ok (.aload_n 0, 1) := by decide +kernel
theorem d289_2202 : decode code 2202 = .ok (.iload 5, 2) := by decide +kernel
theorem d289_2204 : decode code 2204 = .ok (.iconst 1, 1) := by decide +kernel
theorem d289_2205 : decode code 2205 = .ok (.iadd, 1) := by decide +kernel
theorem d289_2206 : decode code 2206 = .ok (.iaload, 1) := by decide +kernel
theorem d289_2207 : decode code 2207 = .ok (.aload_n 0, 1) := by decide +kernel
theorem d289_2208 : decode code 2208 = .ok (.iload 5, 2) := by decide +kernel
theorem d289_2210 : decode code 2210 = .ok (.iconst 2, 1) := by decide +kernel
theorem d289_2211 : decode code 2211 = .ok (.iadd, 1) := by decide +kernel
theorem d289_2212 : decode code 2212 = .ok (.iaload, 1) := by decide +kernel
theorem d289_2213 : decode code 2213 = .ok (.aload_n 3, 1) := by decide +kernel
theorem d289_2214 : decode code 2214 = .ok (.invokestatic 276, 3) := by decide +kernel
theorem d289_2217 : decode code 2217 = .ok (.istore 6, 2) := by decide +kernel
theorem d289_2219 : decode code 2219 = .ok (.aload_n 2, 1) := by decide +kernel
theorem d289_2220 : decode code 2220 = .ok (.aload_n 0, 1) := by decide +kernel
theorem d289_2221 : decode code 2221 = .ok (.iload 5, 2) := by decide +kernel
theorem d289_2223 : decode code 2223 = .ok (.iconst 1, 1) := by decide +kernel
theorem d289_2224 : decode code 2224 = .ok (.iadd, 1) := by decide +kernel
theorem d289_2225 : decode code 2225 = .ok (.iaload, 1) := by decide +kernel
theorem d289_2226 : decode code 2226 = .ok (.aload_n 0, 1) := by decide +kernel
theorem d289_2227 : decode code 2227 = .ok (.iload 5, 2) := by decide +kernel
theorem d289_2229 : decode code 2229 = .ok (.iconst 2, 1) := by decide +kernel
theorem d289_2230 : decode code 2230 = .ok (.iadd, 1) := by decide +kernel
theorem d289_2231 : decode code 2231 = .ok (.iaload, 1) := by decide +kernel
theorem d289_2232 : decode code 2232 = .ok (.invokevirtual 278, 3) := by decide +kernel
theorem d289_2235 : decode code 2235 = .ok (.istore 7, 2) := by decide +kernel
theorem d289_2237 : decode code 2237 = .ok (.aload_n 2, 1) := by decide +kernel
theorem d289_2238 : decode code 2238 = .ok (.invokevirtual 172, 3) := by decide +kernel
theorem d289_2241 : decode code 2241 = .ok (.iload 6, 2) := by decide +kernel
theorem d289_2243 : decode code 2243 = .ok (.if_icmp .eq 5, 3) := by decide +kernel
theorem d289_2246 : decode code 2246 = .ok (.iconst 0, 1) := by decide +kernel
theorem d289_2247 : decode code 2247 = .ok (.ireturn, 1) := by decide +kernel
theorem d289_2248 : decode code 2248 = .ok (.iload 6, 2) := by decide +kernel
theorem d289_2250 : decode code 2250 = .ok (.ifCond .ne 15, 3) := by decide +kernel
theorem d289_2253 : decode code 2253 = .ok (.aload_n 3, 1) := by decide +kernel
theorem d289_2254 : decode code 2254 = .ok (.iconst 0, 1) := by decide +kernel
theorem d289_2255 : decode code 2255 = .ok (.laload, 1) := by decide +kernel
theorem d289_2256 : decode code 2256 = .ok (.iload 7, 2) := by decide +kernel
theorem d289_2258 : decode code 2258 = .ok (.i2l, 1) := by decide +kernel
theorem d289_2259 : decode code 2259 = .ok (.lcmp, 1) := by decide +kernel
theorem d289_2260 : decode code 2260 = .ok (.ifCond .eq 5, 3) := by decide +kernel
theorem d289_2263 : decode code 2263 = .ok (.iconst 0, 1) := by decide +kernel
theorem d289_2264 : decode code 2264 = .ok (.ireturn, 1) := by decide +kernel
theorem d289_2265 : decode code 2265 = .ok (.goto 736, 3) := by decide +kernel
theorem d289_2268 : decode code 2268 = .ok (.aload_n 1, 1) := by decide +kernel
theorem d289_2269 : decode code 2269 = .ok (.aload_n 0, 1) := by decide +kernel
theorem d289_2270 : decode code 2270 = .ok (.iload 5, 2) := by decide +kernel
theorem d289_2272 : decode code 2272 = .ok (.iconst 1, 1) := by decide +kernel
theorem d289_2273 : decode code 2273 = .ok (.iadd, 1) := by decide +kernel
theorem d289_2274 : decode code 2274 = .ok (.iaload, 1) := by decide +kernel
theorem d289_2275 : decode code 2275 = .ok (.aload_n 3, 1) := by decide +kernel
theorem d289_2276 : decode code 2276 = .ok (.invokestatic 279, 3) := by decide +kernel
theorem d289_2279 : decode code 2279 = .ok (.istore 6, 2) := by decide +kernel
theorem d289_2281 : decode code 2281 = .ok (.aload_n 2, 1) := by decide +kernel
theorem d289_2282 : decode code 2282 = .ok (.aload_n 0, 1) := by decide +kernel
theorem d289_2283 : decode code 2283 = .ok (.iload 5, 2) := by decide +kernel
theorem d289_2285 : decode code 2285 = .ok (.iconst 1, 1) := by decide +kernel
theorem d289_2286 : decode code 2286 = .ok (.iadd, 1) := by decide +kernel
theorem d289_2287 : decode code 2287 = .ok (.iaload, 1) := by decide +kernel
theorem d289_2288 : decode code 2288 = .ok (.invokevirtual 281, 3) := by decide +kernel
theorem d289_2291 : decode code 2291 = .ok (.istore 7, 2) := by decide +kernel
theorem d289_2293 : decode code 2293 = .ok (.aload_n 2, 1) := by decide +kernel
theorem d289_2294 : decode code 2294 = .ok (.invokevirtual 172, 3) := by decide +kernel
theorem d289_2297 : decode code 2297 = .ok (.iload 6, 2) := by decide +kernel
theorem d289_2299 : decode code 2299 = .ok (.if_icmp .eq 5, 3) := by decide +kernel
theorem d289_2302 : decode code 2302 = .ok (.iconst 0, 1) := by decide +kernel
theorem d289_2303 : decode code 2303 = .ok (.ireturn, 1) := by decide +kernel
theorem d289_2304 : decode code 2304 = .ok (.iload 6, 2) := by decide +kernel
theorem d289_2306 : decode code 2306 = .ok (.ifCond .ne 15, 3) := by decide +kernel
theorem d289_2309 : decode code 2309 = .ok (.aload_n 3, 1) := by decide +kernel
theorem d289_2310 : decode code 2310 = .ok (.iconst 0, 1) := by decide +kernel
theorem d289_2311 : decode code 2311 = .ok (.laload, 1) := by decide +kernel
theorem d289_2312 : decode code 2312 = .ok (.iload 7, 2) := by decide +kernel
theorem d289_2314 : decode code 2314 = .ok (.i2l, 1) := by decide +kernel
theorem d289_2315 : decode code 2315 = .ok (.lcmp, 1) := by decide +kernel
theorem d289_2316 : decode code 2316 = .ok (.ifCond .eq 5, 3) := by decide +kernel
theorem d289_2319 : decode code 2319 = .ok (.iconst 0, 1) := by decide +kernel
theorem d289_2320 : decode code 2320 = .ok (.ireturn, 1) := by decide +kernel
theorem d289_2321 : decode code 2321 = .ok (.goto 680, 3) := by decide +kernel
theorem d289_2324 : decode code 2324 = .ok (.aload_n 1, 1) := by decide +kernel
theorem d289_2325 : decode code 2325 = .ok (.invokevirtual 282, 3) := by decide +kernel
theorem d289_2328 : decode code 2328 = .ok (.aload_n 2, 1) := by decide +kernel
theorem d289_2329 : decode code 2329 = .ok (.invokevirtual 286, 3) := by decide +kernel
theorem d289_2332 : decode code 2332 = .ok (.lcmp, 1) := by decide +kernel
theorem d289_2333 : decode code 2333 = .ok (.ifCond .eq 668, 3) := by decide +kernel
theorem d289_2336 : decode code 2336 = .ok (.iconst 0, 1) := by decide +kernel
theorem d289_2337 : decode code 2337 = .ok (.ireturn, 1) := by decide +kernel
theorem d289_2338 : decode code 2338 = .ok (.aload_n 1, 1) := by decide +kernel
theorem d289_2339 : decode code 2339 = .ok (.invokevirtual 287, 3) := by decide +kernel
theorem d289_2342 : decode code 2342 = .ok (.aload_n 2, 1) := by decide +kernel
theorem d289_2343 : decode code 2343 = .ok (.invokevirtual 290, 3) := by decide +kernel
theorem d289_2346 : decode code 2346 = .ok (.lcmp, 1) := by decide +kernel
theorem d289_2347 : decode code 2347 = .ok (.ifCond .eq 654, 3) := by decide +kernel
theorem d289_2350 : decode code 2350 = .ok (.iconst 0, 1) := by decide +kernel
theorem d289_2351 : decode code 2351 = .ok (.ireturn, 1) := by decide +kernel
theorem d289_2352 : decode code 2352 = .ok (.aload_n 1, 1) := by decide +kernel
theorem d289_2353 : decode code 2353 = .ok (.invokevirtual 291, 3) := by decide +kernel
theorem d289_2356 : decode code 2356 = .ok (.aload_n 2, 1) := by decide +kernel
theorem d289_2357 : decode code 2357 = .ok (.invokevirtual 294, 3) := by decide +kernel
theorem d289_2360 : decode code 2360 = .ok (.if_icmp .eq 641, 3) := by decide +kernel
theorem d289_2363 : decode code 2363 = .ok (.iconst 0, 1) := by decide +kernel
theorem d289_2364 : decode code 2364 = .ok (.ireturn, 1) := by decide +kernel
theorem d289_2365 : decode code 2365 = .ok (.aload_n 1, 1) := by decide +kernel
theorem d289_2366 : decode code 2366 = .ok (.aload 4, 2) := by decide +kernel
theorem d289_2368 : decode code 2368 = .ok (.invokestatic 295, 3) := by decide +kernel
theorem d289_2371 : decode code 2371 = .ok (.istore 6, 2) := by decide +kernel
theorem d289_2373 : decode code 2373 = .ok (.aload_n 2, 1) := by decide +kernel
theorem d289_2374 : decode code 2374 = .ok (.invokevirtual 298, 3) := by decide +kernel
theorem d289_2377 : decode code 2377 = .ok (.dstore 7, 2) := by decide +kernel
theorem d289_2379 : decode code 2379 = .ok (.aload_n 2, 1) := by decide +kernel
theorem d289_2380 : decode code 2380 = .ok (.invokevirtual 172, 3) := by decide +kernel
theorem d289_2383 : decode code 2383 = .ok (.iload 6, 2) := by decide +kernel
theorem d289_2385 : decode code 2385 = .ok (.if_icmp .eq 5, 3) := by decide +kernel
theorem d289_2388 : decode code 2388 = .ok (.iconst 0, 1) := by decide +kernel
theorem d289_2389 : decode code 2389 = .ok (.ireturn, 1) := by decide +kernel
theorem d289_2390 : decode code 2390 = .ok (.iload 6, 2) := by decide +kernel
theorem d289_2392 : decode code 2392 = .ok (.ifCond .ne 35, 3) := by decide +kernel
theorem d289_2395 : decode code 2395 = .ok (.aload 4, 2) := by decide +kernel
theorem d289_2397 : decode code 2397 = .ok (.iconst 0, 1) := by decide +kernel
theorem d289_2398 : decode code 2398 = .ok (.daload, 1) := by decide +kernel
theorem d289_2399 : decode code 2399 = .ok (.dload 7, 2) := by decide +kernel
theorem d289_2401 : decode code 2401 = .ok (.dcmp .l, 1) := by decide +kernel
theorem d289_2402 : decode code 2402 = .ok (.ifCond .eq 25, 3) := by decide +kernel
theorem d289_2405 : decode code 2405 = .ok (.aload 4, 2) := by decide +kernel
theorem d289_2407 : decode code 2407 = .ok (.iconst 0, 1) := by decide +kernel
theorem d289_2408 : decode code 2408 = .ok (.daload, 1) := by decide +kernel
theorem d289_2409 : decode code 2409 = .ok (.aload 4, 2) := by decide +kernel
theorem d289_2411 : decode code 2411 = .ok (.iconst 0, 1) := by decide +kernel
theorem d289_2412 : decode code 2412 = .ok (.daload, 1) := by decide +kernel
theorem d289_2413 : decode code 2413 = .ok (.dcmp .l, 1) := by decide +kernel
theorem d289_2414 : decode code 2414 = .ok (.ifCond .eq 11, 3) := by decide +kernel
theorem d289_2417 : decode code 2417 = .ok (.dload 7, 2) := by decide +kernel
theorem d289_2419 : decode code 2419 = .ok (.dload 7, 2) := by decide +kernel
theorem d289_2421 : decode code 2421 = .ok (.dcmp .l, 1) := by decide +kernel
theorem d289_2422 : decode code 2422 = .ok (.ifCond .ne 5, 3) := by decide +kernel
theorem d289_2425 : decode code 2425 = .ok (.iconst 0, 1) := by decide +kernel
theorem d289_2426 : decode code 2426 = .ok (.ireturn, 1) := by decide +kernel
theorem d289_2427 : decode code 2427 = .ok (.goto 574, 3) := by decide +kernel
theorem d289_2430 : decode code 2430 = .ok (.aload_n 1, 1) := by decide +kernel
theorem d289_2431 : decode code 2431 = .ok (.invokevirtual 299, 3) := by decide +kernel
theorem d289_2434 : decode code 2434 = .ok (.f2d, 1) := by decide +kernel
theorem d289_2435 : decode code 2435 = .ok (.dstore 6, 2) := by decide +kernel
theorem d289_2437 : decode code 2437 = .ok (.aload_n 2, 1) := by decide +kernel
theorem d289_2438 : decode code 2438 = .ok (.invokevirtual 303, 3) := by decide +kernel
theorem d289_2441 : decode code 2441 = .ok (.f2d, 1) := by decide +kernel
theorem d289_2442 : decode code 2442 = .ok (.dstore 8, 2) := by decide +kernel
theorem d289_2444 : decode code 2444 = .ok (.dload 6, 2) := by decide +kernel
theorem d289_2446 : decode code 2446 = .ok (.dload 8, 2) := by decide +kernel
theorem d289_2448 : decode code 2448 = .ok (.dcmp .l, 1) := by decide +kernel
theorem d289_2449 : decode code 2449 = .ok (.ifCond .eq 21, 3) := by decide +kernel
theorem d289_2452 : decode code 2452 = .ok (.dload 6, 2) := by decide +kernel
theorem d289_2454 : decode code 2454 = .ok (.dload 6, 2) := by decide +kernel
theorem d289_2456 : decode code 2456 = .ok (.dcmp .l, 1) := by decide +kernel
theorem d289_2457 : decode code 2457 = .ok (.ifCond .eq 11, 3) := by decide +kernel
theorem d289_2460 : decode code 2460 = .ok (.dload 8, 2) := by decide +kernel
theorem d289_2462 : decode code 2462 = .ok (.dload 8, 2) := by decide +kernel
theorem d289_2464 : decode code 2464 = .ok (.dcmp .l, 1) := by decide +kernel
theorem d289_2465 : decode code 2465 = .ok (.ifCond .ne 5, 3) := by decide +kernel
theorem d289_2468 : decode code 2468 = .ok (.iconst 0, 1) := by decide +kernel
theorem d289_2469 : decode code 2469 = .ok (.ireturn, 1) := by decide +kernel
theorem d289_2470 : decode code 2470 = .ok (.goto 531, 3) := by decide +kernel
theorem d289_2473 : decode code 2473 = .ok (.aload_n 1, 1) := by decide +kernel
theorem d289_2474 : decode code 2474 = .ok (.aload_n 0, 1) := by decide +kernel
theorem d289_2475 : decode code 2475 = .ok (.iload 5, 2) := by decide +kernel
theorem d289_2477 : decode code 2477 = .ok (.iconst 1, 1) := by decide +kernel
theorem d289_2478 : decode code 2478 = .ok (.iadd, 1) := by decide +kernel
theorem d289_2479 : decode code 2479 = .ok (.iaload, 1) := by decide +kernel
theorem d289_2480 : decode code 2480 = .ok (.aload_n 3, 1) := by decide +kernel
theorem d289_2481 : decode code 2481 = .ok (.invokestatic 304, 3) := by decide +kernel
theorem d289_2484 : decode code 2484 = .ok (.istore 6, 2) := by decide +kernel
theorem d289_2486 : decode code 2486 = .ok (.aload_n 2, 1) := by decide +kernel
theorem d289_2487 : decode code 2487 = .ok (.aload_n 0, 1) := by decide +kernel
theorem d289_2488 : decode code 2488 = .ok (.iload 5, 2) := by decide +kernel
theorem d289_2490 : decode code 2490 = .ok (.iconst 1, 1) := by decide +kernel
theorem d289_2491 : decode code 2491 = .ok (.iadd, 1) := by decide +kernel
theorem d289_2492 : decode code 2492 = .ok (.iaload, 1) := by decide +kernel
theorem d289_2493 : decode code 2493 = .ok (.invokevirtual 306, 3) := by decide +kernel
theorem d289_2496 : decode code 2496 = .ok (.istore 7, 2) := by decide +kernel
theorem d289_2498 : decode code 2498 = .ok (.aload_n 2, 1) := by decide +kernel
theorem d289_2499 : decode code 2499 = .ok (.invokevirtual 172, 3) := by decide +kernel
theorem d289_2502 : decode code 2502 = .ok (.iload 6, 2) := by decide +kernel
theorem d289_2504 : decode code 2504 = .ok (.if_icmp .eq 5, 3) := by decide +kernel
theorem d289_2507 : decode code 2507 = .ok (.iconst 0, 1) := by decide +kernel
theorem d289_2508 : decode code 2508 = .ok (.ireturn, 1) := by decide +kernel
theorem d289_2509 : decode code 2509 = .ok (.iload 6, 2) := by decide +kernel
theorem d289_2511 : decode code 2511 = .ok (.ifCond .ne 15, 3) := by decide +kernel
theorem d289_2514 : decode code 2514 = .ok (.aload_n 3, 1) := by decide +kernel
theorem d289_2515 : decode code 2515 = .ok (.iconst 0, 1) := by decide +kernel
theorem d289_2516 : decode code 2516 = .ok (.laload, 1) := by decide +kernel
theorem d289_2517 : decode code 2517 = .ok (.iload 7, 2) := by decide +kernel
theorem d289_2519 : decode code 2519 = .ok (.i2l, 1) := by decide +kernel
theorem d289_2520 : decode code 2520 = .ok (.lcmp, 1) := by decide +kernel
theorem d289_2521 : decode code 2521 = .ok (.ifCond .eq 5, 3) := by decide +kernel
theorem d289_2524 : decode code 2524 = .ok (.iconst 0, 1) := by decide +kernel
theorem d289_2525 : decode code 2525 = .ok (.ireturn, 1) := by decide +kernel
theorem d289_2526 : decode code 2526 = .ok (.goto 475, 3) := by decide +kernel
theorem d289_2529 : decode code 2529 = .ok (.aload_n 1, 1) := by decide +kernel
theorem d289_2530 : decode code 2530 = .ok (.invokevirtual 307, 3) := by decide +kernel
theorem d289_2533 : decode code 2533 = .ok (.aload_n 2, 1) := by decide +kernel
theorem d289_2534 : decode code 2534 = .ok (.invokevirtual 311, 3) := by decide +kernel
theorem d289_2537 : decode code 2537 = .ok (.if_icmp .eq 464, 3) := by decide +kernel
theorem d289_2540 : decode code 2540 = .ok (.iconst 0, 1) := by decide +kernel
theorem d289_2541 : decode code 2541 = .ok (.ireturn, 1) := by decide +kernel
theorem d289_2542 : decode code 2542 = .ok (.aload_n 1, 1) := by decide +kernel
theorem d289_2543 : decode code 2543 = .ok (.aload_n 0, 1) := by decide +kernel
theorem d289_2544 : decode code 2544 = .ok (.iload 5, 2) := by decide +kernel
theorem d289_2546 : decode code 2546 = .ok (.iconst 1, 1) := by decide +kernel
theorem d289_2547 : decode code 2547 = .ok (.iadd, 1) := by decide +kernel
theorem d289_2548 : decode code 2548 = .ok (.iaload, 1) := by decide +kernel
theorem d289_2549 : decode code 2549 = .ok (.aload_n 3, 1) := by decide +kernel
theorem d289_2550 : decode code 2550 = .ok (.invokestatic 312, 3) := by decide +kernel
theorem d289_2553 : decode code 2553 = .ok (.istore 6, 2) := by decide +kernel
theorem d289_2555 : decode code 2555 = .ok (.aload_n 2, 1) := by decide +kernel
theorem d289_2556 : decode code 2556 = .ok (.aload_n 0, 1) := by decide +kernel
theorem d289_2557 : decode code 2557 = .ok (.iload 5, 2) := by decide +kernel
theorem d289_2559 : decode code 2559 = .ok (.iconst 1, 1) := by decide +kernel
theorem d289_2560 : decode code 2560 = .ok (.iadd, 1) := by decide +kernel
theorem d289_2561 : decode code 2561 = .ok (.iaload, 1) := by decide +kernel
theorem d289_2562 : decode code 2562 = .ok (.invokevirtual 314, 3) := by decide +kernel
theorem d289_2565 : decode code 2565 = .ok (.istore 7, 2) := by decide +kernel
theorem d289_2567 : decode code 2567 = .ok (.aload_n 2, 1) := by decide +kernel
theorem d289_2568 : decode code 2568 = .ok (.invokevirtual 172, 3) := by decide +kernel
theorem d289_2571 : decode code 2571 = .ok (.iload 6, 2) := by decide +kernel
theorem d289_2573 : decode code 2573 = .ok (.if_icmp .eq 5, 3) := by decide +kernel
theorem d289_2576 : decode code 2576 = .ok (.iconst 0, 1) := by decide +kernel
theorem d289_2577 : decode code 2577 = .ok (.ireturn, 1) := by decide +kernel
theorem d289_2578 : decode code 2578 = .ok (.iload 6, 2) := by decide +kernel
theorem d289_2580 : decode code 2580 = .ok (.ifCond .ne 15, 3) := by decide +kernel
theorem d289_2583 : decode code 2583 = .ok (.aload_n 3, 1) := by decide +kernel
theorem d289_2584 : decode code 2584 = .ok (.iconst 0, 1) := by decide +kernel
theorem d289_2585 : decode code 2585 = .ok (.laload, 1) := by decide +kernel
theorem d289_2586 : decode code 2586 = .ok (.iload 7, 2) := by decide +kernel
theorem d289_2588 : decode code 2588 = .ok (.i2l, 1) := by decide +kernel
theorem d289_2589 : decode code 2589 = .ok (.lcmp, 1) := by decide +kernel
theorem d289_2590 : decode code 2590 = .ok (.ifCond .eq 5, 3) := by decide +kernel
theorem d289_2593 : decode code 2593 = .ok (.iconst 0, 1) := by decide +kernel
theorem d289_2594 : decode code 2594 = .ok (.ireturn, 1) := by decide +kernel
theorem d289_2595 : decode code 2595 = .ok (.goto 406, 3) := by decide +kernel
theorem d289_2598 : decode code 2598 = .ok (.aload_n 1, 1) := by decide +kernel
theorem d289_2599 : decode code 2599 = .ok (.aload_n 0, 1) := by decide +kernel
theorem d289_2600 : decode code 2600 = .ok (.iload 5, 2) := by decide +kernel
theorem d289_2602 : decode code 2602 = .ok (.iconst 1, 1) := by decide +kernel
theorem d289_2603 : decode code 2603 = .ok (.iadd, 1) := by decide +kernel
theorem d289_2604 : decode code 2604 = .ok (.iaload, 1) := by decide +kernel
theorem d289_2605 : decode code 2605 = .ok (.aload_n 3, 1) := by decide +kernel
theorem d289_2606 : decode code 2606 = .ok (.invokestatic 315, 3) := by decide +kernel
theorem d289_2609 : decode code 2609 = .ok (.istore 6, 2) := by decide +kernel
theorem d289_2611 : decode code 2611 = .ok (.aload_n 2, 1) := by decide +kernel
theorem d289_2612 : decode code 2612 = .ok (.aload_n 0, 1) := by decide +kernel
theorem d289_2613 : decode code 2613 = .ok (.iload 5, 2) := by decide +kernel
theorem d289_2615 : decode code 2615 = .ok (.iconst 1, 1) := by decide +kernel
theorem d289_2616 : decode code 2616 = .ok (.iadd, 1) := by decide +kernel
theorem d289_2617 : decode code 2617 = .ok (.iaload, 1) := by decide +kernel
theorem d289_2618 : decode code 2618 = .ok (.invokevirtual 317, 3) := by decide +kernel
theorem d289_2621 : decode code 2621 = .ok (.istore 7, 2) := by decide +kernel
theorem d289_2623 : decode code 2623 = .ok (.aload_n 2, 1) := by decide +kernel
theorem d289_2624 : decode code 2624 = .ok (.invokevirtual 172, 3) := by decide +kernel
theorem d289_2627 : decode code 2627 = .ok (.iload 6, 2) := by decide +kernel
theorem d289_2629 : decode code 2629 = .ok (.if_icmp .eq 5, 3) := by decide +kernel
theorem d289_2632 : decode code 2632 = .ok (.iconst 0, 1) := by decide +kernel
theorem d289_2633 : decode code 2633 = .ok (.ireturn, 1) := by decide +kernel
theorem d289_2634 : decode code 2634 = .ok (.iload 6, 2) := by decide +kernel
theorem d289_2636 : decode code 2636 = .ok (.ifCond .ne 15, 3) := by decide +kernel
theorem d289_2639 : decode code 2639 = .ok (.aload_n 3, 1) := by decide +kernel
theorem d289_2640 : decode code 2640 = .ok (.iconst 0, 1) := by decide +kernel
theorem d289_2641 : decode code 2641 = .ok (.laload, 1) := by decide +kernel
theorem d289_2642 : decode code 2642 = .ok (.iload 7, 2) := by decide +kernel
theorem d289_2644 : decode code 2644 = .ok (.i2l, 1) := by decide +kernel
theorem d289_2645 : decode code 2645 = .ok (.lcmp, 1) := by decide +kernel
theorem d289_2646 : decode code 2646 = .ok (.ifCond .eq 5, 3) := by decide +kernel
theorem d289_2649 : decode code 2649 = .ok (.iconst 0, 1) := by decide +kernel
theorem d289_2650 : decode code 2650 = .ok (.ireturn, 1) := by decide +kernel
theorem d289_2651 : decode code 2651 = .ok (.goto 350, 3) := by decide +kernel
theorem d289_2654 : decode code 2654 = .ok (.aload_n 1, 1) := by decide +kernel
theorem d289_2655 : decode code 2655 = .ok (.aload_n 0, 1) := by decide +kernel
theorem d289_2656 : decode code 2656 = .ok (.iload 5, 2) := by decide +kernel
theorem d289_2658 : decode code 2658 = .ok (.iconst 1, 1) := by decide +kernel
theorem d289_2659 : decode code 2659 = .ok (.iadd, 1) := by decide +kernel
theorem d289_2660 : decode code 2660 = .ok (.iaload, 1) := by decide +kernel
theorem d289_2661 : decode code 2661 = .ok (.aload_n 3, 1) := by decide +kernel
theorem d289_2662 : decode code 2662 = .ok (.invokestatic 318, 3) := by decide +kernel
theorem d289_2665 : decode code 2665 = .ok (.istore 6, 2) := by decide +kernel
theorem d289_2667 : decode code 2667 = .ok (.aload_n 2, 1) := by decide +kernel
theorem d289_2668 : decode code 2668 = .ok (.aload_n 0, 1) := by decide +kernel
theorem d289_2669 : decode code 2669 = .ok (.iload 5, 2) := by decide +kernel
theorem d289_2671 : decode code 2671 = .ok (.iconst 1, 1) := by decide +kernel
theorem d289_2672 : decode code 2672 = .ok (.iadd, 1) := by decide +kernel
theorem d289_2673 : decode code 2673 = .ok (.iaload, 1) := by decide +kernel
theorem d289_2674 : decode code 2674 = .ok (.invokevirtual 320, 3) := by decide +kernel
theorem d289_2677 : decode code 2677 = .ok (.istore 7, 2) := by decide +kernel
theorem d289_2679 : decode code 2679 = .ok (.aload_n 2, 1) := by decide +kernel
theorem d289_2680 : decode code 2680 = .ok (.invokevirtual 172, 3) := by decide +kernel
theorem d289_2683 : decode code 2683 = .ok (.iload 6, 2) := by decide +kernel
theorem d289_2685 : decode code 2685 = .ok (.if_icmp .eq 5, 3) := by decide +kernel
theorem d289_2688 : decode code 2688 = .ok (.iconst 0, 1) := by decide +kernel
theorem d289_2689 : decode code 2689 = .ok (.ireturn, 1) := by decide +kernel
theorem d289_2690 : decode code 2690 = .ok (.iload 6, 2) := by decide +kernel
theorem d289_2692 : decode code 2692 = .ok (.ifCond .ne 15, 3) := by decide +kernel
theorem d289_2695 : decode code 2695 = .ok (.aload_n 3, 1) := by decide +kernel
theorem d289_2696 : decode code 2696 = .ok (.iconst 0, 1) := by decide +kernel
theorem d289_2697 : decode code 2697 = .ok (.laload, 1) := by decide +kernel
theorem d289_2698 : decode code 2698 = .ok (.iload 7, 2) := by decide +kernel
theorem d289_2700 : decode code 2700 = .ok (.i2l, 1) := by decide +kernel
theorem d289_2701 : decode code 2701 = .ok (.lcmp, 1) := by decide +kernel
theorem d289_2702 : decode code 2702 = .ok (.ifCond .eq 5, 3) := by decide +kernel
theorem d289_2705 : decode code 2705 = .ok (.iconst 0, 1) := by decide +kernel
theorem d289_2706 : decode code 2706 = .ok (.ireturn, 1) := by decide +kernel
theorem d289_2707 : decode code 2707 = .ok (.goto 294, 3) := by decide +kernel
theorem d289_2710 : decode code 2710 = .ok (.aload_n 1, 1) := by decide +kernel
theorem d289_2711 : decode code 2711 = .ok (.aload_n 0, 1) := by decide +kernel
theorem d289_2712 : decode code 2712 = .ok (.iload 5, 2) := by decide +kernel
theorem d289_2714 : decode code 2714 = .ok (.iconst 1, 1) := by decide +kernel
theorem d289_2715 : decode code 2715 = .ok (.iadd, 1) := by decide +kernel
theorem d289_2716 : decode code 2716 = .ok (.iaload, 1) := by decide +kernel
theorem d289_2717 : decode code 2717 = .ok (.i2c, 1) := by decide +kernel
theorem d289_2718 : decode code 2718 = .ok (.aload_n 3, 1) := by decide +kernel
theorem d289_2719 : decode code 2719 = .ok (.invokestatic 321, 3) := by decide +kernel
theorem d289_2722 : decode code 2722 = .ok (.istore 6, 2) := by decide +kernel
theorem d289_2724 : decode code 2724 = .ok (.aload_n 2, 1) := by decide +kernel
theorem d289_2725 : decode code 2725 = .ok (.aload_n 0, 1) := by decide +kernel
theorem d289_2726 : decode code 2726 = .ok (.iload 5, 2) := by decide +kernel
theorem d289_2728 : decode code 2728 = .ok (.iconst 1, 1) := by decide +kernel
theorem d289_2729 : decode code 2729 = .ok (.iadd, 1) := by decide +kernel
theorem d289_2730 : decode code 2730 = .ok (.iaload, 1) := by decide +kernel
theorem d289_2731 : decode code 2731 = .ok (.i2c, 1) := by decide +kernel
theorem d289_2732 : decode code 2732 = .ok (.invokevirtual 323, 3) := by decide +kernel
theorem d289_2735 : decode code 2735 = .ok (.istore 7, 2) := by decide +kernel
theorem d289_2737 : decode code 2737 = .ok (.aload_n 2, 1) := by decide +kernel
theorem d289_2738 : decode code 2738 = .ok (.invokevirtual 172, 3) := by decide +kernel
theorem d289_2741 : decode code 2741 = .ok (.iload 6, 2) := by decide +kernel
theorem d289_2743 : decode code 2743 = .ok (.if_icmp .eq 5, 3) := by decide +kernel
theorem d289_2746 : decode code 2746 = .ok (.iconst 0, 1) := by decide +kernel
theorem d289_2747 : decode code 2747 = .ok (.ireturn, 1) := by decide +kernel
theorem d289_2748 : decode code 2748 = .ok (.iload 6, 2) := by decide +kernel
theorem d289_2750 : decode code 2750 = .ok (.ifCond .ne 15, 3) := by decide +kernel
theorem d289_2753 : decode code 2753 = .ok (.aload_n 3, 1) := by decide +kernel
theorem d289_2754 : decode code 2754 = .ok (.iconst 0, 1) := by decide +kernel
theorem d289_2755 : decode code 2755 = .ok (.laload, 1) := by decide +kernel
theorem d289_2756 : decode code 2756 = .ok (.iload 7, 2) := by decide +kernel
theorem d289_2758 : decode code 2758 = .ok (.i2l, 1) := by decide +kernel
theorem d289_2759 : decode code 2759 = .ok (.lcmp, 1) := by decide +kernel
theorem d289_2760 : decode code 2760 = .ok (.ifCond .eq 5, 3) := by decide +kernel
theorem d289_2763 : decode code 2763 = .ok (.iconst 0, 1) := by decide +kernel
theorem d289_2764 : decode code 2764 = .ok (.ireturn, 1) := by decide +kernel
theorem d289_2765 : decode code 2765 = .ok (.goto 236, 3) := by decide +kernel
theorem d289_2768 : decode code 2768 = .ok (.aload_n 1, 1) := by decide +kernel
theorem d289_2769 : decode code 2769 = .ok (.aload_n 3, 1) := by decide +kernel
theorem d289_2770 : decode code 2770 = .ok (.invokestatic 324, 3) := by decide +kernel
theorem d289_2773 : decode code 2773 = .ok (.istore 6, 2) := by decide +kernel
theorem d289_2775 : decode code 2775 = .ok (.aload_n 2, 1) := by decide +kernel
theorem d289_2776 : decode code 2776 = .ok (.invokevirtual 327, 3) := by decide +kernel
theorem d289_2779 : decode code 2779 = .ok (.istore 7, 2) := by decide +kernel
theorem d289_2781 : decode code 2781 = .ok (.aload_n 2, 1) := by decide +kernel
theorem d289_2782 : decode code 2782 = .ok (.invokevirtual 172, 3) := by decide +kernel
theorem d289_2785 : decode code 2785 = .ok (.iload 6, 2) := by decide +kernel
theorem d289_2787 : decode code 2787 = .ok (.if_icmp .eq 5, 3) := by decide +kernel
theorem d289_2790 : decode code 2790 = .ok (.iconst 0, 1) := by decide +kernel
theorem d289_2791 : decode code 2791 = .ok (.ireturn, 1) := by decide +kernel
theorem d289_2792 : decode code 2792 = .ok (.iload 6, 2) := by decide +kernel
theorem d289_2794 : decode code 2794 = .ok (.ifCond .ne 15, 3) := by decide +kernel
theorem d289_2797 : decode code 2797 = .ok (.aload_n 3, 1) := by decide +kernel
theorem d289_2798 : decode code 2798 = .ok (.iconst 0, 1) := by decide +kernel
theorem d289_2799 : decode code 2799 = .ok (.laload, 1) := by decide +kernel
theorem d289_2800 : decode code 2800 = .ok (.iload 7, 2) := by decide +kernel
theorem d289_2802 : decode code 2802 = .ok (.i2l, 1) := by decide +kernel
theorem d289_2803 : decode code 2803 = .ok (.lcmp, 1) := by decide +kernel
theorem d289_2804 : decode code 2804 = .ok (.ifCond .eq 5, 3) := by decide +kernel
theorem d289_2807 : decode code 2807 = .ok (.iconst 0, 1) := by decide +kernel
theorem d289_2808 : decode code 2808 = .ok (.ireturn, 1) := by decide +kernel
theorem d289_2809 : decode code 2809 = .ok (.goto 192, 3) := by decide +kernel
theorem d289_2812 : decode code 2812 = .ok (.aload_n 1, 1) := by decide +kernel
theorem d289_2813 : decode code 2813 = .ok (.aload_n 3, 1) := by decide +kernel
theorem d289_2814 : decode code 2814 = .ok (.invokestatic 328, 3) := by decide +kernel
theorem d289_2817 : decode code 2817 = .ok (.istore 6, 2) := by decide +kernel
theorem d289_2819 : decode code 2819 = .ok (.aload_n 2, 1) := by decide +kernel
theorem d289_2820 : decode code 2820 = .ok (.invokevirtual 330, 3) := by decide +kernel
theorem d289_2823 : decode code 2823 = .ok (.istore 7, 2) := by decide +kernel
theorem d289_2825 : decode code 2825 = .ok (.aload_n 2, 1) := by decide +kernel
theorem d289_2826 : decode code 2826 = .ok (.invokevirtual 172, 3) := by decide +kernel
theorem d289_2829 : decode code 2829 = .ok (.iload 6, 2) := by decide +kernel
theorem d289_2831 : decode code 2831 = .ok (.if_icmp .eq 5, 3) := by decide +kernel
theorem d289_2834 : decode code 2834 = .ok (.iconst 0, 1) := by decide +kernel
theorem d289_2835 : decode code 2835 = .ok (.ireturn, 1) := by decide +kernel
theorem d289_2836 : decode code 2836 = .ok (.iload 6, 2) := by decide +kernel
theorem d289_2838 : decode code 2838 = .ok (.ifCond .ne 15, 3) := by decide +kernel
theorem d289_2841 : decode code 2841 = .ok (.aload_n 3, 1) := by decide +kernel
theorem d289_2842 : decode code 2842 = .ok (.iconst 0, 1) := by decide +kernel
theorem d289_2843 : decode code 2843 = .ok (.laload, 1) := by decide +kernel
theorem d289_2844 : decode code 2844 = .ok (.iload 7, 2) := by decide +kernel
theorem d289_2846 : decode code 2846 = .ok (.i2l, 1) := by decide +kernel
theorem d289_2847 : decode code 2847 = .ok (.lcmp, 1) := by decide +kernel
theorem d289_2848 : decode code 2848 = .ok (.ifCond .eq 5, 3) := by decide +kernel
theorem d289_2851 : decode code 2851 = .ok (.iconst 0, 1) := by decide +kernel
theorem d289_2852 : decode code 2852 = .ok (.ireturn, 1) := by decide +kernel
theorem d289_2853 : decode code 2853 = .ok (.goto 148, 3) := by decide +kernel
theorem d289_2856 : decode code 2856 = .ok (.aload_n 1, 1) := by decide +kernel
theorem d289_2857 : decode code 2857 = .ok (.aload_n 3, 1) := by decide +kernel
theorem d289_2858 : decode code 2858 = .ok (.invokestatic 331, 3) := by decide +kernel
theorem d289_2861 : decode code 2861 = .ok (.istore 6, 2) := by decide +kernel
theorem d289_2863 : decode code 2863 = .ok (.aload_n 2, 1) := by decide +kernel
theorem d289_2864 : decode code 2864 = .ok (.invokevirtual 333, 3) := by decide +kernel
theorem d289_2867 : decode code 2867 = .ok (.istore 7, 2) := by decide +kernel
theorem d289_2869 : decode code 2869 = .ok (.aload_n 2, 1) := by decide +kernel
theorem d289_2870 : decode code 2870 = .ok (.invokevirtual 172, 3) := by decide +kernel
theorem d289_2873 : decode code 2873 = .ok (.iload 6, 2) := by decide +kernel
theorem d289_2875 : decode code 2875 = .ok (.if_icmp .eq 5, 3) := by decide +kernel
theorem d289_2878 : decode code 2878 = .ok (.iconst 0, 1) := by decide +kernel
theorem d289_2879 : decode code 2879 = .ok (.ireturn, 1) := by decide +kernel
theorem d289_2880 : decode code 2880 = .ok (.iload 6, 2) := by decide +kernel
theorem d289_2882 : decode code 2882 = .ok (.ifCond .ne 15, 3) := by decide +kernel
theorem d289_2885 : decode code 2885 = .ok (.aload_n 3, 1) := by decide +kernel
theorem d289_2886 : decode code 2886 = .ok (.iconst 0, 1) := by decide +kernel
theorem d289_2887 : decode code 2887 = .ok (.laload, 1) := by decide +kernel
theorem d289_2888 : decode code 2888 = .ok (.iload 7, 2) := by decide +kernel
theorem d289_2890 : decode code 2890 = .ok (.i2l, 1) := by decide +kernel
theorem d289_2891 : decode code 2891 = .ok (.lcmp, 1) := by decide +kernel
theorem d289_2892 : decode code 2892 = .ok (.ifCond .eq 5, 3) := by decide +kernel
theorem d289_2895 : decode code 2895 = .ok (.iconst 0, 1) := by decide +kernel
theorem d289_2896 : decode code 2896 = .ok (.ireturn, 1) := by decide +kernel
theorem d289_2897 : decode code 2897 = .ok (.goto 104, 3) := by decide +kernel
theorem d289_2900 : decode code 2900 = .ok (.aload_n 1, 1) := by decide +kernel
theorem d289_2901 : decode code 2901 = .ok (.aload_n 3, 1) := by decide +kernel
theorem d289_2902 : decode code 2902 = .ok (.invokestatic 334, 3) := by decide +kernel
theorem d289_2905 : decode code 2905 = .ok (.istore 6, 2) := by decide +kernel
theorem d289_2907 : decode code 2907 = .ok (.aload_n 2, 1) := by decide +kernel
theorem d289_2908 : decode code 2908 = .ok (.invokevirtual 336, 3) := by decide +kernel
theorem d289_2911 : decode code 2911 = .ok (.istore 7, 2) := by decide +kernel
theorem d289_2913 : decode code 2913 = .ok (.aload_n 2, 1) := by decide +kernel
theorem d289_2914 : decode code 2914 = .ok (.invokevirtual 172, 3) := by decide +kernel
theorem d289_2917 : decode code 2917 = .ok (.iload 6, 2) := by decide +kernel
theorem d289_2919 : decode code 2919 = .ok (.if_icmp .eq 5, 3) := by decide +kernel
theorem d289_2922 : decode code 2922 = .ok (.iconst 0, 1) := by decide +kernel
theorem d289_2923 : decode code 2923 = .ok (.ireturn, 1) := by decide +kernel
theorem d289_2924 : decode code 2924 = .ok (.iload 6, 2) := by decide +kernel
theorem d289_2926 : decode code 2926 = .ok (.ifCond .ne 15, 3) := by decide +kernel
theorem d289_2929 : decode code 2929 = .ok (.aload_n 3, 1) := by decide +kernel
theorem d289_2930 : decode code 2930 = .ok (.iconst 0, 1) := by decide +kernel
theorem d289_2931 : decode code 2931 = .ok (.laload, 1) := by decide +kernel
theorem d289_2932 : decode code 2932 = .ok (.iload 7, 2) := by decide +kernel
theorem d289_2934 : decode code 2934 = .ok (.i2l, 1) := by decide +kernel
theorem d289_2935 : decode code 2935 = .ok (.lcmp, 1) := by decide +kernel
theorem d289_2936 : decode code 2936 = .ok (.ifCond .eq 5, 3) := by decide +kernel
theorem d289_2939 : decode code 2939 = .ok (.iconst 0, 1) := by decide +kernel
theorem d289_2940 : decode code 2940 = .ok (.ireturn, 1) := by decide +kernel
theorem d289_2941 : decode code 2941 = .ok (.goto 60, 3) := by decide +kernel
theorem d289_2944 : decode code 2944 = .ok (.aload_n 1, 1) := by decide +kernel
theorem d289_2945 : decode code 2945 = .ok (.invokevirtual 337, 3) := by decide +kernel
theorem d289_2948 : decode code 2948 = .ok (.aload_n 2, 1) := by decide +kernel
theorem d289_2949 : decode code 2949 = .ok (.invokevirtual 340, 3) := by decide +kernel
theorem d289_2952 : decode code 2952 = .ok (.if_icmp .eq 49, 3) := by decide +kernel
theorem d289_2955 : decode code 2955 = .ok (.iconst 0, 1) := by decide +kernel
theorem d289_2956 : decode code 2956 = .ok (.ireturn, 1) := by decide +kernel
theorem d289_2957 : decode code 2957 = .ok (.aload_n 1, 1) := by decide +kernel
theorem d289_2958 : decode code 2958 = .ok (.aload_n 3, 1) := by decide +kernel
theorem d289_2959 : decode code 2959 = .ok (.invokestatic 341, 3) := by decide +kernel
theorem d289_2962 : decode code 2962 = .ok (.istore 6, 2) := by decide +kernel
theorem d289_2964 : decode code 2964 = .ok (.aload_n 2, 1) := by decide +kernel
theorem d289_2965 : decode code 2965 = .ok (.invokevirtual 343, 3) := by decide +kernel
theorem d289_2968 : decode code 2968 = .ok (.istore 7, 2) := by decide +kernel
theorem d289_2970 : decode code 2970 = .ok (.aload_n 2, 1) := by decide +kernel
theorem d289_2971 : decode code 2971 = .ok (.invokevirtual 172, 3) := by decide +kernel
theorem d289_2974 : decode code 2974 = .ok (.iload 6, 2) := by decide +kernel
theorem d289_2976 : decode code 2976 = .ok (.if_icmp .eq 5, 3) := by decide +kernel
theorem d289_2979 : decode code 2979 = .ok (.iconst 0, 1) := by decide +kernel
theorem d289_2980 : decode code 2980 = .ok (.ireturn, 1) := by decide +kernel
theorem d289_2981 : decode code 2981 = .ok (.iload 6, 2) := by decide +kernel
theorem d289_2983 : decode code 2983 = .ok (.ifCond .ne 15, 3) := by decide +kernel
theorem d289_2986 : decode code 2986 = .ok (.aload_n 3, 1) := by decide +kernel
theorem d289_2987 : decode code 2987 = .ok (.iconst 0, 1) := by decide +kernel
theorem d289_2988 : decode code 2988 = .ok (.laload, 1) := by decide +kernel
theorem d289_2989 : decode code 2989 = .ok (.iload 7, 2) := by decide +kernel
theorem d289_2991 : decode code 2991 = .ok (.i2l, 1) := by decide +kernel
theorem d289_2992 : decode code 2992 = .ok (.lcmp, 1) := by decide +kernel
theorem d289_2993 : decode code 2993 = .ok (.ifCond .eq 5, 3) := by decide +kernel
theorem d289_2996 : decode code 2996 = .ok (.iconst 0, 1) := by decide +kernel
theorem d289_2997 : decode code 2997 = .ok (.ireturn, 1) := by decide +kernel
theorem d289_2998 : decode code 2998 = .ok (.goto 3, 3) := by decide +kernel
theorem d289_3001 : decode code 3001 = .ok (.iinc 5 7, 3) := by decide +kernel
theorem d289_3004 : decode code 3004 = .ok (.goto (-2976), 3) := by decide +kernel
theorem d289_3007 : decode code 3007 = .ok (.iconst 1, 1) := by decide +kernel
theorem d289_3008 : decode code 3008 = .ok (.ireturn, 1) := by decide +kernel
theorem d290_0 : decode object_method_1_code 0 = .ok (.return_, 1) := by decide +kernel
theorem d291_0 : decode prog_14_method_2_code 0 = .ok (.aload_n 0, 1) := by decide +kernel
theorem d291_1 : decode prog_14_method_2_code 1 = .ok (.invokespecial 3, 3) := by decide +kernel
theorem d291_4 : decode prog_14_method_2_code 4 = .ok (.getstatic 18, 3) := by decide +kernel
theorem d291_7 : decode prog_14_method_2_code 7 = .ok (.ifCond .eq 18, 3) := by decide +kernel
theorem d291_10 : decode prog_14_method_2_code 10 = .ok (.aload_n 0, 1) := by decide +kernel
theorem d291_11 : decode prog_14_method_2_code 11 = .ok (.iload_n 1, 1) := by decide +kernel
theorem d291_12 : decode prog_14_method_2_code 12 = .ok (.newarray .byte, 2) := by decide +kernel
theorem d291_14 : decode prog_14_method_2_code 14 = .ok (.putfield 15, 3) := by decide +kernel
theorem d291_17 : decode prog_14_method_2_code 17 = .ok (.aload_n 0, 1) := by decide +kernel
theorem d291_18 : decode prog_14_method_2_code 18 = .ok (.iconst 0, 1) := by decide +kernel
theorem d291_19 : decode prog_14_method_2_code 19 = .ok (.putfield 22, 3) := by decide +kernel
theorem d291_22 : decode prog_14_method_2_code 22 = .ok (.goto 16, 3) := by decide +kernel
theorem d291_25 : decode prog_14_method_2_code 25 = .ok (.aload_n 0, 1) := by decide +kernel
theorem d291_26 : decode prog_14_method_2_code 26 = .ok (.iload_n 1, 1) := by decide +kernel
theorem d291_27 : decode prog_14_method_2_code 27 = .ok (.invokestatic 26, 3) := by decide +kernel
theorem d291_30 : decode prog_14_method_2_code 30 = .ok (.putfield 15, 3) := by decide +kernel
theorem d291_33 : decode prog_14_method_2_code 33 = .ok (.aload_n 0, 1) := by decide +kernel
theorem d291_34 : decode prog_14_method_2_code 34 = .ok (.iconst 1, 1) := by decide +kernel
theorem d291_35 : decode prog_14_method_2_code 35 = .ok (.putfield 22, 3) := by decide +kernel
theorem d291_38 : decode prog_14_method_2_code 38 = .ok (.return_, 1) := by decide +kernel
theorem d292_0 : decode prog_14_method_13_code 0 = .ok (.iload_n 1, 1) := by decide +kernel
theorem d292_1 : decode prog_14_method_13_code 1 = .ok (.ifCond .ge 12, 3) := by decide +kernel
theorem d292_4 : decode prog_14_method_13_code 4 = .ok (.new 129, 3) := by decide +kernel
theorem d292_7 : decode prog_14_method_13_code 7 = .ok (.dup, 1) := by decide +kernel
theorem d292_8 : decode prog_14_method_13_code 8 = .ok (.iload_n 1, 1) := by decide +kernel
theorem d292_9 : decode prog_14_method_13_code 9 = .ok (.invokespecial 131, 3) := by decide +kernel
theorem d292_12 : decode prog_14_method_13_code 12 = .ok (.athrow, 1) := by decide +kernel
theorem d292_13 : decode prog_14_method_13_code 13 = .ok (.aload_n 0, 1) := by decide +kernel
theorem d292_14 : decode prog_14_method_13_code 14 = .ok (.iload_n 1, 1) := by decide +kernel
theorem d292_15 : decode prog_14_method_13_code 15 = .ok (.invokevirtual 100, 3) := by decide +kernel
theorem d292_18 : decode prog_14_method_13_code 18 = .ok (.aload_n 0, 1) := by decide +kernel
theorem d292_19 : decode prog_14_method_13_code 19 = .ok (.getfield 79, 3) := by decide +kernel
theorem d292_22 : decode prog_14_method_13_code 22 = .ok (.iload_n 1, 1) := by decide +kernel
theorem d292_23 : decode prog_14_method_13_code 23 = .ok (.if_icmp .ge 40, 3) := by decide +kernel
theorem d292_26 : decode prog_14_method_13_code 26 = .ok (.aload_n 0, 1) := by decide +kernel
theorem d292_27 : decode prog_14_method_13_code 27 = .ok (.invokevirtual 83, 3) := by decide +kernel
theorem d292_30 : decode prog_14_method_13_code 30 = .ok (.ifCond .eq 18, 3) := by decide +kernel
theorem d292_33 : decode prog_14_method_13_code 33 = .ok (.aload_n 0, 1) := by decide +kernel
theorem d292_34 : decode prog_14_method_13_code 34 = .ok (.getfield 15, 3) := by decide +kernel
theorem d292_37 : decode prog_14_method_13_code 37 = .ok (.aload_n 0, 1) := by decide +kernel
theorem d292_38 : decode prog_14_method_13_code 38 = .ok (.getfield 79, 3) := by decide +kernel
theorem d292_41 : decode prog_14_method_13_code 41 = .ok (.iload_n 1, 1) := by decide +kernel
theorem d292_42 : decode prog_14_method_13_code 42 = .ok (.invokestatic 133, 3) := by decide +kernel
theorem d292_45 : decode prog_14_method_13_code 45 = .ok (.goto 31, 3) := by decide +kernel
theorem d292_48 : decode prog_14_method_13_code 48 = .ok (.aload_n 0, 1) := by decide +kernel
theorem d292_49 : decode prog_14_method_13_code 49 = .ok (.getfield 15, 3) := by decide +kernel
theorem d292_52 : decode prog_14_method_13_code 52 = .ok (.aload_n 0, 1) := by decide +kernel
theorem d292_53 : decode prog_14_method_13_code 53 = .ok (.getfield 79, 3) := by decide +kernel
theorem d292_56 : decode prog_14_method_13_code 56 = .ok (.iload_n 1, 1) := by decide +kernel
theorem d292_57 : decode prog_14_method_13_code 57 = .ok (.invokestatic 137, 3) := by decide +kernel
theorem d292_60 : decode prog_14_method_13_code 60 = .ok (.goto 16, 3) := by decide +kernel
theorem d292_63 : decode prog_14_method_13_code 63 = .ok (.aload_n 0, 1) := by decide +kernel
theorem d292_64 : decode prog_14_method_13_code 64 = .ok (.getfield 79, 3) := by decide +kernel
theorem d292_67 : decode prog_14_method_13_code 67 = .ok (.iload_n 1, 1) := by decide +kernel
theorem d292_68 : decode prog_14_method_13_code 68 = .ok (.if_icmp .le 8, 3) := by decide +kernel
theorem d292_71 : decode prog_14_method_13_code 71 = .ok (.aload_n 0, 1) := by decide +kernel
theorem d292_72 : decode prog_14_method_13_code 72 = .ok (.iconst 1, 1) := by decide +kernel
theorem d292_73 : decode prog_14_method_13_code 73 = .ok (.putfield 73, 3) := by decide +kernel
theorem d292_76 : decode prog_14_method_13_code 76 = .ok (.aload_n 0, 1) := by decide +kernel
theorem d292_77 : decode prog_14_method_13_code 77 = .ok (.iload_n 1, 1) := by decide +kernel
theorem d292_78 : decode prog_14_method_13_code 78 = .ok (.putfield 79, 3) := by decide +kernel
theorem d292_81 : decode prog_14_method_13_code 81 = .ok (.return_, 1) := by decide +kernel
theorem d293_0 : decode prog_14_method_22_code 0 = .ok (.aload_n 1, 1) := by decide +kernel
theorem d293_1 : decode prog_14_method_22_code 1 = .ok (.ifnonnull 8, 3) := by decide +kernel
theorem d293_4 : decode prog_14_method_22_code 4 = .ok (.aload_n 0, 1) := by decide +kernel
theorem d293_5 : decode prog_14_method_22_code 5 = .ok (.invokevirtual 204, 3) := by decide +kernel
theorem d293_8 : decode prog_14_method_22_code 8 = .ok (.areturn, 1) := by decide +kernel
theorem d293_9 : decode prog_14_method_22_code 9 = .ok (.aload_n 1, 1) := by decide +kernel
theorem d293_10 : decode prog_14_method_22_code 10 = .ok (.invokevirtual 32, 3) := by decide +kernel
theorem d293_13 : decode prog_14_method_22_code 13 = .ok (.istore_n 2, 1) := by decide +kernel
theorem d293_14 : decode prog_14_method_22_code 14 = .ok (.aload_n 0, 1) := by decide +kernel
theorem d293_15 : decode prog_14_method_22_code 15 = .ok (.aload_n 0, 1) := by decide +kernel
theorem d293_16 : decode prog_14_method_22_code 16 = .ok (.getfield 79, 3) := by decide +kernel
theorem d293_19 : decode prog_14_method_22_code 19 = .ok (.iload_n 2, 1) := by decide +kernel
theorem d293_20 : decode prog_14_method_22_code 20 = .ok (.iadd, 1) := by decide +kernel
theorem d293_21 : decode prog_14_method_22_code 21 = .ok (.invokevirtual 100, 3) := by decide +kernel
theorem d293_24 : decode prog_14_method_22_code 24 = .ok (.aload_n 0, 1) := by decide +kernel
theorem d293_25 : decode prog_14_method_22_code 25 = .ok (.aload_n 0, 1) := by decide +kernel
theorem d293_26 : decode prog_14_method_22_code 26 = .ok (.getfield 79, 3) := by decide +kernel
theorem d293_29 : decode prog_14_method_22_code 29 = .ok (.aload_n 1, 1) := by decide +kernel
theorem d293_30 : decode prog_14_method_22_code 30 = .ok (.invokevirtual 208, 3) := by decide +kernel
theorem d293_33 : decode prog_14_method_22_code 33 = .ok (.aload_n 0, 1) := by decide +kernel
theorem d293_34 : decode prog_14_method_22_code 34 = .ok (.dup, 1) := by decide +kernel
theorem d293_35 : decode prog_14_method_22_code 35 = .ok (.getfield 79, 3) := by decide +kernel
theorem d293_38 : decode prog_14_method_22_code 38 = .ok (.iload_n 2, 1) := by decide +kernel
theorem d293_39 : decode prog_14_method_22_code 39 = .ok (.iadd, 1) := by decide +kernel
theorem d293_40 : decode prog_14_method_22_code 40 = .ok (.putfield 79, 3) := by decide +kernel
theorem d293_43 : decode prog_14_method_22_code 43 = .ok (.aload_n 0, 1) := by decide +kernel
theorem d293_44 : decode prog_14_method_22_code 44 = .ok (.areturn, 1) := by decide +kernel
theorem d294_0 : decode prog_14_method_9_code 0 = .ok (.aload_n 0, 1) := by decide +kernel
theorem d294_1 : decode prog_14_method_9_code 1 = .ok (.getfield 15, 3) := by decide +kernel
theorem d294_4 : decode prog_14_method_9_code 4 = .ok (.arraylength, 1) := by decide +kernel
theorem d294_5 : decode prog_14_method_9_code 5 = .ok (.aload_n 0, 1) := by decide +kernel
theorem d294_6 : decode prog_14_method_9_code 6 = .ok (.getfield 22, 3) := by decide +kernel
theorem d294_9 : decode prog_14_method_9_code 9 = .ok (.ishr, 1) := by decide +kernel
theorem d294_10 : decode prog_14_method_9_code 10 = .ok (.istore_n 2, 1) := by decide +kernel
theorem d294_11 : decode prog_14_method_9_code 11 = .ok (.iload_n 1, 1) := by decide +kernel
theorem d294_12 : decode prog_14_method_9_code 12 = .ok (.iload_n 2, 1) := by decide +kernel
theorem d294_13 : decode prog_14_method_9_code 13 = .ok (.isub, 1) := by decide +kernel
theorem d294_14 : decode prog_14_method_9_code 14 = .ok (.ifCond .le 24, 3) := by decide +kernel
theorem d294_17 : decode prog_14_method_9_code 17 = .ok (.aload_n 0, 1) := by decide +kernel
theorem d294_18 : decode prog_14_method_9_code 18 = .ok (.aload_n 0, 1) := by decide +kernel
theorem d294_19 : decode prog_14_method_9_code 19 = .ok (.getfield 15, 3) := by decide +kernel
theorem d294_22 : decode prog_14_method_9_code 22 = .ok (.aload_n 0, 1) := by decide +kernel
theorem d294_23 : decode prog_14_method_9_code 23 = .ok (.iload_n 1, 1) := by decide +kernel
theorem d294_24 : decode prog_14_method_9_code 24 = .ok (.invokevirtual 104, 3) := by decide +kernel
theorem d294_27 : decode prog_14_method_9_code 27 = .ok (.aload_n 0, 1) := by decide +kernel
theorem d294_28 : decode prog_14_method_9_code 28 = .ok (.getfield 22, 3) := by decide +kernel
theorem d294_31 : decode prog_14_method_9_code 31 = .ok (.ishl, 1) := by decide +kernel
theorem d294_32 : decode prog_14_method_9_code 32 = .ok (.invokestatic 108, 3) := by decide +kernel
theorem d294_35 : decode prog_14_method_9_code 35 = .ok (.putfield 15, 3) := by decide +kernel
theorem d294_38 : decode prog_14_method_9_code 38 = .ok (.return_, 1) := by decide +kernel
theorem d295_0 : decode prog_14_method_10_code 0 = .ok (.aload_n 0, 1) := by decide +kernel
theorem d295_1 : decode prog_14_method_10_code 1 = .ok (.getfield 15, 3) := by decide +kernel
theorem d295_4 : decode prog_14_method_10_code 4 = .ok (.arraylength, 1) := by decide +kernel
theorem d295_5 : decode prog_14_method_10_code 5 = .ok (.istore_n 2, 1) := by decide +kernel
theorem d295_6 : decode prog_14_method_10_code 6 = .ok (.iload_n 1, 1) := by decide +kernel
theorem d295_7 : decode prog_14_method_10_code 7 = .ok (.aload_n 0, 1) := by decide +kernel
theorem d295_8 : decode prog_14_method_10_code 8 = .ok (.getfield 22, 3) := by decide +kernel
theorem d295_11 : decode prog_14_method_10_code 11 = .ok (.ishl, 1) := by decide +kernel
theorem d295_12 : decode prog_14_method_10_code 12 = .ok (.istore_n 3, 1) := by decide +kernel
theorem d295_13 : decode prog_14_method_10_code 13 = .ok (.iload_n 3, 1) := by decide +kernel
theorem d295_14 : decode prog_14_method_10_code 14 = .ok (.iload_n 2, 1) := by decide +kernel
theorem d295_15 : decode prog_14_method_10_code 15 = .ok (.isub, 1) := by decide +kernel
theorem d295_16 : decode prog_14_method_10_code 16 = .ok (.istore 4, 2) := by decide +kernel
theorem d295_18 : decode prog_14_method_10_code 18 = .ok (.iload_n 2, 1) := by decide +kernel
theorem d295_19 : decode prog_14_method_10_code 19 = .ok (.iload 4, 2) := by decide +kernel
theorem d295_21 : decode prog_14_method_10_code 21 = .ok (.iload_n 2, 1) := by decide +kernel
theorem d295_22 : decode prog_14_method_10_code 22 = .ok (.iconst 2, 1) := by decide +kernel
theorem d295_23 : decode prog_14_method_10_code 23 = .ok (.aload_n 0, 1) := by decide +kernel
theorem d295_24 : decode prog_14_method_10_code 24 = .ok (.getfield 22, 3) := by decide +kernel
theorem d295_27 : decode prog_14_method_10_code 27 = .ok (.ishl, 1) := by decide +kernel
theorem d295_28 : decode prog_14_method_10_code 28 = .ok (.iadd, 1) := by decide +kernel
theorem d295_29 : decode prog_14_method_10_code 29 = .ok (.invokestatic 114, 3) := by decide +kernel
theorem d295_32 : decode prog_14_method_10_code 32 = .ok (.istore 5, 2) := by decide +kernel
theorem d295_34 : decode prog_14_method_10_code 34 = .ok (.iload 5, 2) := by decide +kernel
theorem d295_36 : decode prog_14_method_10_code 36 = .ok (.ldc 39, 2) := by decide +kernel
theorem d295_38 : decode prog_14_method_10_code 38 = .ok (.if_icmp .ne 13, 3) := by decide +kernel
theorem d295_41 : decode prog_14_method_10_code 41 = .ok (.new 120, 3) := by decide +kernel
theorem d295_44 : decode prog_14_method_10_code 44 = .ok (.dup, 1) := by decide +kernel
theorem d295_45 : decode prog_14_method_10_code 45 = .ok (.ldc 122, 2) := by decide +kernel
theorem d295_47 : decode prog_14_method_10_code 47 = .ok (.invokespecial 124, 3) := by decide +kernel
theorem d295_50 : decode prog_14_method_10_code 50 = .ok (.athrow, 1) := by decide +kernel
theorem d295_51 : decode prog_14_method_10_code 51 = .ok (.iload 5, 2) := by decide +kernel
theorem d295_53 : decode prog_14_method_10_code 53 = .ok (.aload_n 0, 1) := by decide +kernel
theorem d295_54 : decode prog_14_method_10_code 54 = .ok (.getfield 22, 3) := by decide +kernel
theorem d295_57 : decode prog_14_method_10_code 57 = .ok (.ishr, 1) := by decide +kernel
theorem d295_58 : decode prog_14_method_10_code 58 = .ok (.ireturn, 1) := by decide +kernel
theorem d296_0 : decode prog_14_method_68_code 0 = .ok (.getstatic 18, 3) := by decide +kernel
theorem d296_3 : decode prog_14_method_68_code 3 = .ok (.ifCond .eq 14, 3) := by decide +kernel
theorem d296_6 : decode prog_14_method_68_code 6 = .ok (.aload_n 0, 1) := by decide +kernel
theorem d296_7 : decode prog_14_method_68_code 7 = .ok (.getfield 22, 3) := by decide +kernel
theorem d296_10 : decode prog_14_method_68_code 10 = .ok (.ifCond .ne 7, 3) := by decide +kernel
theorem d296_13 : decode prog_14_method_68_code 13 = .ok (.iconst 1, 1) := by decide +kernel
theorem d296_14 : decode prog_14_method_68_code 14 = .ok (.goto 4, 3) := by decide +kernel
theorem d296_17 : decode prog_14_method_68_code 17 = .ok (.iconst 0, 1) := by decide +kernel
theorem d296_18 : decode prog_14_method_68_code 18 = .ok (.ireturn, 1) := by decide +kernel
theorem d297_0 : decode prog_14_method_73_code 0 = .ok (.aload_n 0, 1) := by decide +kernel
theorem d297_1 : decode prog_14_method_73_code 1 = .ok (.aload_n 2, 1) := by decide +kernel
theorem d297_2 : decode prog_14_method_73_code 2 = .ok (.invokevirtual 397, 3) := by decide +kernel
theorem d297_5 : decode prog_14_method_73_code 5 = .ok (.aload_n 2, 1) := by decide +kernel
theorem d297_6 : decode prog_14_method_73_code 6 = .ok (.aload_n 0, 1) := by decide +kernel
theorem d297_7 : decode prog_14_method_73_code 7 = .ok (.getfield 15, 3) := by decide +kernel
theorem d297_10 : decode prog_14_method_73_code 10 = .ok (.iload_n 1, 1) := by decide +kernel
theorem d297_11 : decode prog_14_method_73_code 11 = .ok (.aload_n 0, 1) := by decide +kernel
theorem d297_12 : decode prog_14_method_73_code 12 = .ok (.getfield 22, 3) := by decide +kernel
theorem d297_15 : decode prog_14_method_73_code 15 = .ok (.invokevirtual 399, 3) := by decide +kernel
theorem d297_18 : decode prog_14_method_73_code 18 = .ok (.return_, 1) := by decide +kernel
theorem d298_0 : decode prog_14_method_71_code 0 = .ok (.getstatic 18, 3) := by decide +kernel
theorem d298_3 : decode prog_14_method_71_code 3 = .ok (.ifCond .eq 18, 3) := by decide +kernel
theorem d298_6 : decode prog_14_method_71_code 6 = .ok (.aload_n 0, 1) := by decide +kernel
theorem d298_7 : decode prog_14_method_71_code 7 = .ok (.getfield 22, 3) := by decide +kernel
theorem d298_10 : decode prog_14_method_71_code 10 = .ok (.aload_n 1, 1) := by decide +kernel
theorem d298_11 : decode prog_14_method_71_code 11 = .ok (.invokevirtual 40, 3) := by decide +kernel
theorem d298_14 : decode prog_14_method_71_code 14 = .ok (.if_icmp .eq 7, 3) := by decide +kernel
theorem d298_17 : decode prog_14_method_71_code 17 = .ok (.aload_n 0, 1) := by decide +kernel
theorem d298_18 : decode prog_14_method_71_code 18 = .ok (.invokevirtual 195, 3) := by decide +kernel
theorem d298_21 : decode prog_14_method_71_code 21 = .ok (.return_, 1) := by decide +kernel
theorem d299_0 : decode prog_14_method_32_code 0 = .ok (.aload_n 0, 1) := by decide +kernel
theorem d299_1 : decode prog_14_method_32_code 1 = .ok (.getfield 79, 3) := by decide +kernel
theorem d299_4 : decode prog_14_method_32_code 4 = .ok (.istore_n 2, 1) := by decide +kernel
theorem d299_5 : decode prog_14_method_32_code 5 = .ok (.iload_n 2, 1) := by decide +kernel
theorem d299_6 : decode prog_14_method_32_code 6 = .ok (.iload_n 1, 1) := by decide +kernel
theorem d299_7 : decode prog_14_method_32_code 7 = .ok (.invokestatic 245, 3) := by decide +kernel
theorem d299_10 : decode prog_14_method_32_code 10 = .ok (.iadd, 1) := by decide +kernel
theorem d299_11 : decode prog_14_method_32_code 11 = .ok (.istore_n 3, 1) := by decide +kernel
theorem d299_12 : decode prog_14_method_32_code 12 = .ok (.aload_n 0, 1) := by decide +kernel
theorem d299_13 : decode prog_14_method_32_code 13 = .ok (.iload_n 3, 1) := by decide +kernel
theorem d299_14 : decode prog_14_method_32_code 14 = .ok (.invokevirtual 100, 3) := by decide +kernel
theorem d299_17 : decode prog_14_method_32_code 17 = .ok (.aload_n 0, 1) := by decide +kernel
theorem d299_18 : decode prog_14_method_32_code 18 = .ok (.invokevirtual 83, 3) := by decide +kernel
theorem d299_21 : decode prog_14_method_32_code 21 = .ok (.ifCond .eq 16, 3) := by decide +kernel
theorem d299_24 : decode prog_14_method_32_code 24 = .ok (.iload_n 1, 1) := by decide +kernel
theorem d299_25 : decode prog_14_method_32_code 25 = .ok (.iload_n 3, 1) := by decide +kernel
theorem d299_26 : decode prog_14_method_32_code 26 = .ok (.aload_n 0, 1) := by decide +kernel
theorem d299_27 : decode prog_14_method_32_code 27 = .ok (.getfield 15, 3) := by decide +kernel
theorem d299_30 : decode prog_14_method_32_code 30 = .ok (.invokestatic 248, 3) := by decide +kernel
theorem d299_33 : decode prog_14_method_32_code 33 = .ok (.pop, 1) := by decide +kernel
theorem d299_34 : decode prog_14_method_32_code 34 = .ok (.goto 14, 3) := by decide +kernel
theorem d299_37 : decode prog_14_method_32_code 37 = .ok (.iload_n 1, 1) := by decide +kernel
theorem d299_38 : decode prog_14_method_32_code 38 = .ok (.iload_n 2, 1) := by decide +kernel
theorem d299_39 : decode prog_14_method_32_code 39 = .ok (.iload_n 3, 1) := by decide +kernel
theorem d299_40 : decode prog_14_method_32_code 40 = .ok (.aload_n 0, 1) := by decide +kernel
theorem d299_41 : decode prog_14_method_32_code 41 = .ok (.getfield 15, 3) := by decide +kernel
theorem d299_44 : decode prog_14_method_32_code 44 = .ok (.invokestatic 251, 3) := by decide +kernel
theorem d299_47 : decode prog_14_method_32_code 47 = .ok (.pop, 1) := by decide +kernel
theorem d299_48 : decode prog_14_method_32_code 48 = .ok (.aload_n 0, 1) := by decide +kernel
theorem d299_49 : decode prog_14_method_32_code 49 = .ok (.iload_n 3, 1) := by decide +kernel
theorem d299_50 : decode prog_14_method_32_code 50 = .ok (.putfield 79, 3) := by decide +kernel
theorem d299_53 : decode prog_14_method_32_code 53 = .ok (.aload_n 0, 1) := by decide +kernel
theorem d299_54 : decode prog_14_method_32_code 54 = .ok (.areturn, 1) := by decide +kernel
theorem d300_0 : decode prog_14_method_6_code 0 = .ok (.aload_n 0, 1) := by decide +kernel
theorem d300_1 : decode prog_14_method_6_code 1 = .ok (.getfield 79, 3) := by decide +kernel
theorem d300_4 : decode prog_14_method_6_code 4 = .ok (.ireturn, 1) := by decide +kernel
theorem d301_0 : decode prog_14_method_31_code 0 = .ok (.aload_n 0, 1) := by decide +kernel
theorem d301_1 : decode prog_14_method_31_code 1 = .ok (.aload_n 0, 1) := by decide +kernel
theorem d301_2 : decode prog_14_method_31_code 2 = .ok (.getfield 79, 3) := by decide +kernel
theorem d301_5 : decode prog_14_method_31_code 5 = .ok (.iconst 1, 1) := by decide +kernel
theorem d301_6 : decode prog_14_method_31_code 6 = .ok (.iadd, 1) := by decide +kernel
theorem d301_7 : decode prog_14_method_31_code 7 = .ok (.invokevirtual 100, 3) := by decide +kernel
theorem d301_10 : decode prog_14_method_31_code 10 = .ok (.aload_n 0, 1) := by decide +kernel
theorem d301_11 : decode prog_14_method_31_code 11 = .ok (.invokevirtual 83, 3) := by decide +kernel
theorem d301_14 : decode prog_14_method_31_code 14 = .ok (.ifCond .eq 31, 3) := by decide +kernel
theorem d301_17 : decode prog_14_method_31_code 17 = .ok (.iload_n 1, 1) := by decide +kernel
theorem d301_18 : decode prog_14_method_31_code 18 = .ok (.invokestatic 191, 3) := by decide +kernel
theorem d301_21 : decode prog_14_method_31_code 21 = .ok (.ifCond .eq 24, 3) := by decide +kernel
theorem d301_24 : decode prog_14_method_31_code 24 = .ok (.aload_n 0, 1) := by decide +kernel
theorem d301_25 : decode prog_14_method_31_code 25 = .ok (.getfield 15, 3) := by decide +kernel
theorem d301_28 : decode prog_14_method_31_code 28 = .ok (.aload_n 0, 1) := by decide +kernel
theorem d301_29 : decode prog_14_method_31_code 29 = .ok (.dup, 1) := by decide +kernel
theorem d301_30 : decode prog_14_method_31_code 30 = .ok (.getfield 79, 3) := by decide +kernel
theorem d301_33 : decode prog_14_method_31_code 33 = .ok (.dup_x1, 1) := by decide +kernel
theorem d301_34 : decode prog_14_method_31_code 34 = .ok (.iconst 1, 1) := by decide +kernel
theorem d301_35 : decode prog_14_method_31_code 35 = .ok (.iadd, 1) := by decide +kernel
theorem d301_36 : decode prog_14_method_31_code 36 = .ok (.putfield 79, 3) := by decide +kernel
theorem d301_39 : decode prog_14_method_31_code 39 = .ok (.iload_n 1, 1) := by decide +kernel
theorem d301_40 : decode prog_14_method_31_code 40 = .ok (.i2b, 1) := by decide +kernel
theorem d301_41 : decode prog_14_method_31_code 41 = .ok (.bastore, 1) := by decide +kernel
theorem d301_42 : decode prog_14_method_31_code 42 = .ok (.goto 33, 3) := by decide +kernel
theorem d301_45 : decode prog_14_method_31_code 45 = .ok (.aload_n 0, 1) := by decide +kernel
theorem d301_46 : decode prog_14_method_31_code 46 = .ok (.invokevirtual 83, 3) := by decide +kernel
theorem d301_49 : decode prog_14_method_31_code 49 = .ok (.ifCond .eq 7, 3) := by decide +kernel
theorem d301_52 : decode prog_14_method_31_code 52 = .ok (.aload_n 0, 1) := by decide +kernel
theorem d301_53 : decode prog_14_method_31_code 53 = .ok (.invokevirtual 195, 3) := by decide +kernel
theorem d301_56 : decode prog_14_method_31_code 56 = .ok (.aload_n 0, 1) := by decide +kernel
theorem d301_57 : decode prog_14_method_31_code 57 = .ok (.getfield 15, 3) := by decide +kernel
theorem d301_60 : decode prog_14_method_31_code 60 = .ok (.aload_n 0, 1) := by decide +kernel
theorem d301_61 : decode prog_14_method_31_code 61 = .ok (.dup, 1) := by decide +kernel
theorem d301_62 : decode prog_14_method_31_code 62 = .ok (.getfield 79, 3) := by decide +kernel
theorem d301_65 : decode prog_14_method_31_code 65 = .ok (.dup_x1, 1) := by decide +kernel
theorem d301_66 : decode prog_14_method_31_code 66 = .ok (.iconst 1, 1) := by decide +kernel
theorem d301_67 : decode prog_14_method_31_code 67 = .ok (.iadd, 1) := by decide +kernel
theorem d301_68 : decode prog_14_method_31_code 68 = .ok (.putfield 79, 3) := by decide +kernel
theorem d301_71 : decode prog_14_method_31_code 71 = .ok (.iload_n 1, 1) := by decide +kernel
theorem d301_72 : decode prog_14_method_31_code 72 = .ok (.invokestatic 197, 3) := by decide +kernel
theorem d301_75 : decode prog_14_method_31_code 75 = .ok (.aload_n 0, 1) := by decide +kernel
theorem d301_76 : decode prog_14_method_31_code 76 = .ok (.areturn, 1) := by decide +kernel
theorem d302_0 : decode prog_14_method_14_code 0 = .ok (.aload_n 0, 1) := by decide +kernel
theorem d302_1 : decode prog_14_method_14_code 1 = .ok (.getfield 22, 3) := by decide +kernel
theorem d302_4 : decode prog_14_method_14_code 4 = .ok (.istore_n 2, 1) := by decide +kernel
theorem d302_5 : decode prog_14_method_14_code 5 = .ok (.aload_n 0, 1) := by decide +kernel
theorem d302_6 : decode prog_14_method_14_code 6 = .ok (.getfield 15, 3) := by decide +kernel
theorem d302_9 : decode prog_14_method_14_code 9 = .ok (.astore_n 3, 1) := by decide +kernel
theorem d302_10 : decode prog_14_method_14_code 10 = .ok (.aload_n 0, 1) := by decide +kernel
theorem d302_11 : decode prog_14_method_14_code 11 = .ok (.getfield 79, 3) := by decide +kernel
theorem d302_14 : decode prog_14_method_14_code 14 = .ok (.aload_n 3, 1) := by decide +kernel
theorem d302_15 : decode prog_14_method_14_code 15 = .ok (.arraylength, 1) := by decide +kernel
theorem d302_16 : decode prog_14_method_14_code 16 = .ok (.iload_n 2, 1) := by decide +kernel
theorem d302_17 : decode prog_14_method_14_code 17 = .ok (.ishr, 1) := by decide +kernel
theorem d302_18 : decode prog_14_method_14_code 18 = .ok (.invokestatic 138, 3) := by decide +kernel
theorem d302_21 : decode prog_14_method_14_code 21 = .ok (.istore 4, 2) := by decide +kernel
theorem d302_23 : decode prog_14_method_14_code 23 = .ok (.iload_n 1, 1) := by decide +kernel
theorem d302_24 : decode prog_14_method_14_code 24 = .ok (.iload 4, 2) := by decide +kernel
theorem d302_26 : decode prog_14_method_14_code 26 = .ok (.invokestatic 144, 3) := by decide +kernel
theorem d302_29 : decode prog_14_method_14_code 29 = .ok (.iload_n 2, 1) := by decide +kernel
theorem d302_30 : decode prog_14_method_14_code 30 = .ok (.ifCond .ne 12, 3) := by decide +kernel
theorem d302_33 : decode prog_14_method_14_code 33 = .ok (.aload_n 3, 1) := by decide +kernel
theorem d302_34 : decode prog_14_method_14_code 34 = .ok (.iload_n 1, 1) := by decide +kernel
theorem d302_35 : decode prog_14_method_14_code 35 = .ok (.baload, 1) := by decide +kernel
theorem d302_36 : decode prog_14_method_14_code 36 = .ok (.sipush 255, 3) := by decide +kernel
theorem d302_39 : decode prog_14_method_14_code 39 = .ok (.iand, 1) := by decide +kernel
theorem d302_40 : decode prog_14_method_14_code 40 = .ok (.i2c, 1) := by decide +kernel
theorem d302_41 : decode prog_14_method_14_code 41 = .ok (.ireturn, 1) := by decide +kernel
theorem d302_42 : decode prog_14_method_14_code 42 = .ok (.aload_n 3, 1) := by decide +kernel
theorem d302_43 : decode prog_14_method_14_code 43 = .ok (.iload_n 1, 1) := by decide +kernel
theorem d302_44 : decode prog_14_method_14_code 44 = .ok (.invokestatic 148, 3) := by decide +kernel
theorem d302_47 : decode prog_14_method_14_code 47 = .ok (.ireturn, 1) := by decide +kernel
theorem d303_0 : decode prog_31_method_1_code 0 = .ok (.aload_n 0, 1) := by decide +kernel
theorem d303_1 : decode prog_31_method_1_code 1 = .ok (.bipush 16, 2) := by decide +kernel
theorem d303_3 : decode prog_31_method_1_code 3 = .ok (.invokespecial 1, 3) := by decide +kernel
theorem d303_6 : decode prog_31_method_1_code 6 = .ok (.return_, 1) := by decide +kernel
theorem d304_0 : decode prog_31_method_89_code 0 = .ok (.aload_n 0, 1) := by decide +kernel
theorem d304_1 : decode prog_31_method_89_code 1 = .ok (.iload_n 1, 1) := by decide +kernel
theorem d304_2 : decode prog_31_method_89_code 2 = .ok (.invokespecial 333, 3) := by decide +kernel
theorem d304_5 : decode prog_31_method_89_code 5 = .ok (.return_, 1) := by decide +kernel
theorem d305_0 : decode prog_31_method_7_code 0 = .ok (.aload_n 0, 1) := by decide +kernel
theorem d305_1 : decode prog_31_method_7_code 1 = .ok (.aload_n 1, 1) := by decide +kernel
theorem d305_2 : decode prog_31_method_7_code 2 = .ok (.invokespecial 29, 3) := by decide +kernel
theorem d305_5 : decode prog_31_method_7_code 5 = .ok (.pop, 1) := by decide +kernel
theorem d305_6 : decode prog_31_method_7_code 6 = .ok (.aload_n 0, 1) := by decide +kernel
theorem d305_7 : decode prog_31_method_7_code 7 = .ok (.areturn, 1) := by decide +kernel
theorem d306_0 : decode prog_31_method_15_code 0 = .ok (.aload_n 0, 1) := by decide +kernel
theorem d306_1 : decode prog_31_method_15_code 1 = .ok (.iload_n 1, 1) := by decide +kernel
theorem d306_2 : decode prog_31_method_15_code 2 = .ok (.invokespecial 53, 3) := by decide +kernel
theorem d306_5 : decode prog_31_method_15_code 5 = .ok (.pop, 1) := by decide +kernel
theorem d306_6 : decode prog_31_method_15_code 6 = .ok (.aload_n 0, 1) := by decide +kernel
theorem d306_7 : decode prog_31_method_15_code 7 = .ok (.areturn, 1) := by decide +kernel
theorem d307_0 : decode prog_31_method_93_code 0 = .ok (.aload_n 0, 1) := by decide +kernel
theorem d307_1 : decode prog_31_method_93_code 1 = .ok (.invokespecial 343, 3) := by decide +kernel
theorem d307_4 : decode prog_31_method_93_code 4 = .ok (.ireturn, 1) := by decide +kernel
theorem d308_0 : decode prog_31_method_14_code 0 = .ok (.aload_n 0, 1) := by decide +kernel
theorem d308_1 : decode prog_31_method_14_code 1 = .ok (.iload_n 1, 1) := by decide +kernel
theorem d308_2 : decode prog_31_method_14_code 2 = .ok (.invokespecial 50, 3) := by decide +kernel
theorem d308_5 : decode prog_31_method_14_code 5 = .ok (.pop, 1) := by decide +kernel
theorem d308_6 : decode prog_31_method_14_code 6 = .ok (.aload_n 0, 1) := by decide +kernel
theorem d308_7 : decode prog_31_method_14_code 7 = .ok (.areturn, 1) := by decide +kernel
theorem d309_0 : decode prog_31_method_88_code 0 = .ok (.aload_n 0, 1) := by decide +kernel
theorem d309_1 : decode prog_31_method_88_code 1 = .ok (.iload_n 1, 1) := by decide +kernel
theorem d309_2 : decode prog_31_method_88_code 2 = .ok (.invokespecial 329, 3) := by decide +kernel
theorem d309_5 : decode prog_31_method_88_code 5 = .ok (.ireturn, 1) := by decide +kernel
theorem d310_0 : decode prog_30_method_54_code 0 = .ok (.aload_n 0, 1) := by decide +kernel
theorem d310_1 : decode prog_30_method_54_code 1 = .ok (.getfield 9, 3) := by decide +kernel
theorem d310_4 : decode prog_30_method_54_code 4 = .ok (.arraylength, 1) := by decide +kernel
theorem d310_5 : decode prog_30_method_54_code 5 = .ok (.aload_n 0, 1) := by decide +kernel
theorem d310_6 : decode prog_30_method_54_code 6 = .ok (.invokevirtual 335, 3) := by decide +kernel
theorem d310_9 : decode prog_30_method_54_code 9 = .ok (.ishr, 1) := by decide +kernel
theorem d310_10 : decode prog_30_method_54_code 10 = .ok (.ireturn, 1) := by decide +kernel
theorem d311_0 : decode prog_30_method_152_code 0 = .ok (.getstatic 38, 3) := by decide +kernel
theorem d311_3 : decode prog_30_method_152_code 3 = .ok (.ifCond .eq 10, 3) := by decide +kernel
theorem d311_6 : decode prog_30_method_152_code 6 = .ok (.aload_n 0, 1) := by decide +kernel
theorem d311_7 : decode prog_30_method_152_code 7 = .ok (.getfield 15, 3) := by decide +kernel
theorem d311_10 : decode prog_30_method_152_code 10 = .ok (.goto 4, 3) := by decide +kernel
theorem d311_13 : decode prog_30_method_152_code 13 = .ok (.iconst 1, 1) := by decide +kernel
theorem d311_14 : decode prog_30_method_152_code 14 = .ok (.ireturn, 1) := by decide +kernel
theorem d312_0 : decode prog_30_method_147_code 0 = .ok (.aload_n 0, 1) := by decide +kernel
theorem d312_1 : decode prog_30_method_147_code 1 = .ok (.invokevirtual 335, 3) := by decide +kernel
theorem d312_4 : decode prog_30_method_147_code 4 = .ok (.iload_n 3, 1) := by decide +kernel
theorem d312_5 : decode prog_30_method_147_code 5 = .ok (.if_icmp .ne 23, 3) := by decide +kernel
theorem d312_8 : decode prog_30_method_147_code 8 = .ok (.aload_n 0, 1) := by decide +kernel
theorem d312_9 : decode prog_30_method_147_code 9 = .ok (.getfield 9, 3) := by decide +kernel
theorem d312_12 : decode prog_30_method_147_code 12 = .ok (.iconst 0, 1) := by decide +kernel
theorem d312_13 : decode prog_30_method_147_code 13 = .ok (.aload_n 1, 1) := by decide +kernel
theorem d312_14 : decode prog_30_method_147_code 14 = .ok (.iload_n 2, 1) := by decide +kernel
theorem d312_15 : decode prog_30_method_147_code 15 = .ok (.iload_n 3, 1) := by decide +kernel
theorem d312_16 : decode prog_30_method_147_code 16 = .ok (.ishl, 1) := by decide +kernel
theorem d312_17 : decode prog_30_method_147_code 17 = .ok (.aload_n 0, 1) := by decide +kernel
theorem d312_18 : decode prog_30_method_147_code 18 = .ok (.getfield 9, 3) := by decide +kernel
theorem d312_21 : decode prog_30_method_147_code 21 = .ok (.arraylength, 1) := by decide +kernel
theorem d312_22 : decode prog_30_method_147_code 22 = .ok (.invokestatic 212, 3) := by decide +kernel
theorem d312_25 : decode prog_30_method_147_code 25 = .ok (.goto 18, 3) := by decide +kernel
theorem d312_28 : decode prog_30_method_147_code 28 = .ok (.aload_n 0, 1) := by decide +kernel
theorem d312_29 : decode prog_30_method_147_code 29 = .ok (.getfield 9, 3) := by decide +kernel
theorem d312_32 : decode prog_30_method_147_code 32 = .ok (.iconst 0, 1) := by decide +kernel
theorem d312_33 : decode prog_30_method_147_code 33 = .ok (.aload_n 1, 1) := by decide +kernel
theorem d312_34 : decode prog_30_method_147_code 34 = .ok (.iload_n 2, 1) := by decide +kernel
theorem d312_35 : decode prog_30_method_147_code 35 = .ok (.aload_n 0, 1) := by decide +kernel
theorem d312_36 : decode prog_30_method_147_code 36 = .ok (.getfield 9, 3) := by decide +kernel
theorem d312_39 : decode prog_30_method_147_code 39 = .ok (.arraylength, 1) := by decide +kernel
theorem d312_40 : decode prog_30_method_147_code 40 = .ok (.invokestatic 106, 3) := by decide +kernel
theorem d312_43 : decode prog_30_method_147_code 43 = .ok (.return_, 1) := by decide +kernel
theorem d313_0 : decode prog_30_method_155_code 0 = .ok (.iload_n 0, 1) := by decide +kernel
theorem d313_1 : decode prog_30_method_155_code 1 = .ok (.iload_n 1, 1) := by decide +kernel
theorem d313_2 : decode prog_30_method_155_code 2 = .ok (.getstatic 1053, 3) := by decide +kernel
theorem d313_5 : decode prog_30_method_155_code 5 = .ok (.invokestatic 1059, 3) := by decide +kernel
theorem d313_8 : decode prog_30_method_155_code 8 = .ok (.pop, 1) := by decide +kernel
theorem d313_9 : decode prog_30_method_155_code 9 = .ok (.return_, 1) := by decide +kernel
theorem d314_0 : decode prog_30_method_56_code 0 = .ok (.aload_n 0, 1) := by decide +kernel
theorem d314_1 : decode prog_30_method_56_code 1 = .ok (.invokevirtual 492, 3) := by decide +kernel
theorem d314_4 : decode prog_30_method_56_code 4 = .ok (.ifCond .eq 12, 3) := by decide +kernel
theorem d314_7 : decode prog_30_method_56_code 7 = .ok (.aload_n 0, 1) := by decide +kernel
theorem d314_8 : decode prog_30_method_56_code 8 = .ok (.getfield 9, 3) := by decide +kernel
theorem d314_11 : decode prog_30_method_56_code 11 = .ok (.iload_n 1, 1) := by decide +kernel
theorem d314_12 : decode prog_30_method_56_code 12 = .ok (.invokestatic 495, 3) := by decide +kernel
theorem d314_15 : decode prog_30_method_56_code 15 = .ok (.ireturn, 1) := by decide +kernel
theorem d314_16 : decode prog_30_method_56_code 16 = .ok (.aload_n 0, 1) := by decide +kernel
theorem d314_17 : decode prog_30_method_56_code 17 = .ok (.getfield 9, 3) := by decide +kernel
theorem d314_20 : decode prog_30_method_56_code 20 = .ok (.iload_n 1, 1) := by decide +kernel
theorem d314_21 : decode prog_30_method_56_code 21 = .ok (.invokestatic 498, 3) := by decide +kernel
theorem d314_24 : decode prog_30_method_56_code 24 = .ok (.ireturn, 1) := by decide +kernel
theorem d315_0 : decode prog_30_method_154_code 0 = .ok (.getstatic 38, 3) := by decide +kernel
theorem d315_3 : decode prog_30_method_154_code 3 = .ok (.ifCond .eq 14, 3) := by decide +kernel
theorem d315_6 : decode prog_30_method_154_code 6 = .ok (.aload_n 0, 1) := by decide +kernel
theorem d315_7 : decode prog_30_method_154_code 7 = .ok (.getfield 15, 3) := by decide +kernel
theorem d315_10 : decode prog_30_method_154_code 10 = .ok (.ifCond .ne 7, 3) := by decide +kernel
theorem d315_13 : decode prog_30_method_154_code 13 = .ok (.iconst 1, 1) := by decide +kernel
theorem d315_14 : decode prog_30_method_154_code 14 = .ok (.goto 4, 3) := by decide +kernel
theorem d315_17 : decode prog_30_method_154_code 17 = .ok (.iconst 0, 1) := by decide +kernel
theorem d315_18 : decode prog_30_method_154_code 18 = .ok (.ireturn, 1) := by decide +kernel
theorem d316_0 : decode prog_33_method_3_code 0 = .ok (.iload_n 0, 1) := by decide +kernel
theorem d316_1 : decode prog_33_method_3_code 1 = .ok (.sipush 255, 3) := by decide +kernel
theorem d316_4 : decode prog_33_method_3_code 4 = .ok (.if_icmp .gt 7, 3) := by decide +kernel
theorem d316_7 : decode prog_33_method_3_code 7 = .ok (.iconst 1, 1) := by decide +kernel
theorem d316_8 : decode prog_33_method_3_code 8 = .ok (.goto 4, 3) := by decide +kernel
theorem d316_11 : decode prog_33_method_3_code 11 = .ok (.iconst 0, 1) := by decide +kernel
theorem d316_12 : decode prog_33_method_3_code 12 = .ok (.ireturn, 1) := by decide +kernel
theorem d317_0 : decode prog_33_method_2_code 0 = .ok (.iload_n 1, 1) := by decide +kernel
theorem d317_1 : decode prog_33_method_2_code 1 = .ok (.aload_n 0, 1) := by decide +kernel
theorem d317_2 : decode prog_33_method_2_code 2 = .ok (.arraylength, 1) := by decide +kernel
theorem d317_3 : decode prog_33_method_2_code 3 = .ok (.invokestatic 9, 3) := by decide +kernel
theorem d317_6 : decode prog_33_method_2_code 6 = .ok (.aload_n 0, 1) := by decide +kernel
theorem d317_7 : decode prog_33_method_2_code 7 = .ok (.iload_n 1, 1) := by decide +kernel
theorem d317_8 : decode prog_33_method_2_code 8 = .ok (.baload, 1) := by decide +kernel
theorem d317_9 : decode prog_33_method_2_code 9 = .ok (.sipush 255, 3) := by decide +kernel
theorem d317_12 : decode prog_33_method_2_code 12 = .ok (.iand, 1) := by decide +kernel
theorem d317_13 : decode prog_33_method_2_code 13 = .ok (.i2c, 1) := by decide +kernel
theorem d317_14 : decode prog_33_method_2_code 14 = .ok (.ireturn, 1) := by decide +kernel
theorem d318_0 : decode prog_26_method_13_code 0 = .ok (.iconst 1, 1) := by decide +kernel
theorem d318_1 : decode prog_26_method_13_code 1 = .ok (.istore_n 1, 1) := by decide +kernel
theorem d318_2 : decode prog_26_method_13_code 2 = .ok (.iload_n 0, 1) := by decide +kernel
theorem d318_3 : decode prog_26_method_13_code 3 = .ok (.ifCond .lt 8, 3) := by decide +kernel
theorem d318_6 : decode prog_26_method_13_code 6 = .ok (.iconst 0, 1) := by decide +kernel
theorem d318_7 : decode prog_26_method_13_code 7 = .ok (.istore_n 1, 1) := by decide +kernel
theorem d318_8 : decode prog_26_method_13_code 8 = .ok (.iload_n 0, 1) := by decide +kernel
theorem d318_9 : decode prog_26_method_13_code 9 = .ok (.ineg, 1) := by decide +kernel
theorem d318_10 : decode prog_26_method_13_code 10 = .ok (.istore_n 0, 1) := by decide +kernel
theorem d318_11 : decode prog_26_method_13_code 11 = .ok (.bipush (-10), 2) := by decide +kernel
theorem d318_13 : decode prog_26_method_13_code 13 = .ok (.istore_n 2, 1) := by decide +kernel
theorem d318_14 : decode prog_26_method_13_code 14 = .ok (.iconst 1, 1) := by decide +kernel
theorem d318_15 : decode prog_26_method_13_code 15 = .ok (.istore_n 3, 1) := by decide +kernel
theorem d318_16 : decode prog_26_method_13_code 16 = .ok (.iload_n 3, 1) := by decide +kernel
theorem d318_17 : decode prog_26_method_13_code 17 = .ok (.bipush 10, 2) := by decide +kernel
theorem d318_19 : decode prog_26_method_13_code 19 = .ok (.if_icmp .ge 23, 3) := by decide +kernel
theorem d318_22 : decode prog_26_method_13_code 22 = .ok (.iload_n 0, 1) := by decide +kernel
theorem d318_23 : decode prog_26_method_13_code 23 = .ok (.iload_n 2, 1) := by decide +kernel
theorem d318_24 : decode prog_26_method_13_code 24 = .ok (.if_icmp .le 7, 3) := by decide +kernel
theorem d318_27 : decode prog_26_method_13_code 27 = .ok (.iload_n 3, 1) := by decide +kernel
theorem d318_28 : decode prog_26_method_13_code 28 = .ok (.iload_n 1, 1) := by decide +kernel
theorem d318_29 : decode prog_26_method_13_code 29 = .ok (.iadd, 1) := by decide +kernel
theorem d318_30 : decode prog_26_method_13_code 30 = .ok (.ireturn, 1) := by decide +kernel
theorem d318_31 : decode prog_26_method_13_code 31 = .ok (.bipush 10, 2) := by decide +kernel
theorem d318_33 : decode prog_26_method_13_code 33 = .ok (.iload_n 2, 1) := by decide +kernel
theorem d318_34 : decode prog_26_method_13_code 34 = .ok (.imul, 1) := by decide +kernel
theorem d318_35 : decode prog_26_method_13_code 35 = .ok (.istore_n 2, 1) := by decide +kernel
theorem d318_36 : decode prog_26_method_13_code 36 = .ok (.iinc 3 1, 3) := by decide +kernel
theorem d318_39 : decode prog_26_method_13_code 39 = .ok (.goto (-23), 3) := by decide +kernel
theorem d318_42 : decode prog_26_method_13_code 42 = .ok (.bipush 10, 2) := by decide +kernel
theorem d318_44 : decode prog_26_method_13_code 44 = .ok (.iload_n 1, 1) := by decide +kernel
theorem d318_45 : decode prog_26_method_13_code 45 = .ok (.iadd, 1) := by decide +kernel
theorem d318_46 : decode prog_26_method_13_code 46 = .ok (.ireturn, 1) := by decide +kernel
theorem d319_0 : decode prog_26_method_12_code 0 = .ok (.iload_n 1, 1) := by decide +kernel
theorem d319_1 : decode prog_26_method_12_code 1 = .ok (.istore 5, 2) := by decide +kernel
theorem d319_3 : decode prog_26_method_12_code 3 = .ok (.iload_n 0, 1) := by decide +kernel
theorem d319_4 : decode prog_26_method_12_code 4 = .ok (.ifCond .ge 7, 3) := by decide +kernel
theorem d319_7 : decode prog_26_method_12_code 7 = .ok (.iconst 1, 1) := by decide +kernel
theorem d319_8 : decode prog_26_method_12_code 8 = .ok (.goto 4, 3) := by decide +kernel
theorem d319_11 : decode prog_26_method_12_code 11 = .ok (.iconst 0, 1) := by decide +kernel
theorem d319_12 : decode prog_26_method_12_code 12 = .ok (.istore 6, 2) := by decide +kernel
theorem d319_14 : decode prog_26_method_12_code 14 = .ok (.iload 6, 2) := by decide +kernel
theorem d319_16 : decode prog_26_method_12_code 16 = .ok (.ifCond .ne 6, 3) := by decide +kernel
theorem d319_19 : decode prog_26_method_12_code 19 = .ok (.iload_n 0, 1) := by decide +kernel
theorem d319_20 : decode prog_26_method_12_code 20 = .ok (.ineg, 1) := by decide +kernel
theorem d319_21 : decode prog_26_method_12_code 21 = .ok (.istore_n 0, 1) := by decide +kernel
theorem d319_22 : decode prog_26_method_12_code 22 = .ok (.iload_n 0, 1) := by decide +kernel
theorem d319_23 : decode prog_26_method_12_code 23 = .ok (.bipush (-100), 2) := by decide +kernel
theorem d319_25 : decode prog_26_method_12_code 25 = .ok (.if_icmp .gt 47, 3) := by decide +kernel
theorem d319_28 : decode prog_26_method_12_code 28 = .ok (.iload_n 0, 1) := by decide +kernel
theorem d319_29 : decode prog_26_method_12_code 29 = .ok (.bipush 100, 2) := by decide +kernel
theorem d319_31 : decode prog_26_method_12_code 31 = .ok (.idiv, 1) := by decide +kernel
theorem d319_32 : decode prog_26_method_12_code 32 = .ok (.istore_n 3, 1) := by decide +kernel
theorem d319_33 : decode prog_26_method_12_code 33 = .ok (.iload_n 3, 1) := by decide +kernel
theorem d319_34 : decode prog_26_method_12_code 34 = .ok (.bipush 100, 2) := by decide +kernel
theorem d319_36 : decode prog_26_method_12_code 36 = .ok (.imul, 1) := by decide +kernel
theorem d319_37 : decode prog_26_method_12_code 37 = .ok (.iload_n 0, 1) := by decide +kernel
theorem d319_38 : decode prog_26_method_12_code 38 = .ok (.isub, 1) := by decide +kernel
theorem d319_39 : decode prog_26_method_12_code 39 = .ok (.istore 4, 2) := by decide +kernel
theorem d319_41 : decode prog_26_method_12_code 41 = .ok (.iload_n 3, 1) := by decide +kernel
theorem d319_42 : decode prog_26_method_12_code 42 = .ok (.istore_n 0, 1) := by decide +kernel
theorem d319_43 : decode prog_26_method_12_code 43 = .ok (.aload_n 2, 1) := by decide +kernel
theorem d319_44 : decode prog_26_method_12_code 44 = .ok (.iinc 5 (-1), 3) := by decide +kernel
theorem d319_47 : decode prog_26_method_12_code 47 = .ok (.iload 5, 2) := by decide +kernel
theorem d319_49 : decode prog_26_method_12_code 49 = .ok (.getstatic 83, 3) := by decide +kernel
theorem d319_52 : decode prog_26_method_12_code 52 = .ok (.iload 4, 2) := by decide +kernel
theorem d319_54 : decode prog_26_method_12_code 54 = .ok (.baload, 1) := by decide +kernel
theorem d319_55 : decode prog_26_method_12_code 55 = .ok (.bastore, 1) := by decide +kernel
theorem d319_56 : decode prog_26_method_12_code 56 = .ok (.aload_n 2, 1) := by decide +kernel
theorem d319_57 : decode prog_26_method_12_code 57 = .ok (.iinc 5 (-1), 3) := by decide +kernel
theorem d319_60 : decode prog_26_method_12_code 60 = .ok (.iload 5, 2) := by decide +kernel
theorem d319_62 : decode prog_26_method_12_code 62 = .ok (.getstatic 87, 3) := by decide +kernel
theorem d319_65 : decode prog_26_method_12_code 65 = .ok (.iload 4, 2) := by decide +kernel
theorem d319_67 : decode prog_26_method_12_code 67 = .ok (.baload, 1) := by decide +kernel
theorem d319_68 : decode prog_26_method_12_code 68 = .ok (.bastore, 1) := by decide +kernel
theorem d319_69 : decode prog_26_method_12_code 69 = .ok (.goto (-47), 3) := by decide +kernel
theorem d319_72 : decode prog_26_method_12_code 72 = .ok (.aload_n 2, 1) := by decide +kernel
theorem d319_73 : decode prog_26_method_12_code 73 = .ok (.iinc 5 (-1), 3) := by decide +kernel
theorem d319_76 : decode prog_26_method_12_code 76 = .ok (.iload 5, 2) := by decide +kernel
theorem d319_78 : decode prog_26_method_12_code 78 = .ok (.getstatic 83, 3) := by decide +kernel
theorem d319_81 : decode prog_26_method_12_code 81 = .ok (.iload_n 0, 1) := by decide +kernel
theorem d319_82 : decode prog_26_method_12_code 82 = .ok (.ineg, 1) := by decide +kernel
theorem d319_83 : decode prog_26_method_12_code 83 = .ok (.baload, 1) := by decide +kernel
theorem d319_84 : decode prog_26_method_12_code 84 = .ok (.bastore, 1) := by decide +kernel
theorem d319_85 : decode prog_26_method_12_code 85 = .ok (.iload_n 0, 1) := by decide +kernel
theorem d319_86 : decode prog_26_method_12_code 86 = .ok (.bipush (-9), 2) := by decide +kernel
theorem d319_88 : decode prog_26_method_12_code 88 = .ok (.if_icmp .ge 16, 3) := by decide +kernel
theorem d319_91 : decode prog_26_method_12_code 91 = .ok (.aload_n 2, 1) := by decide +kernel
theorem d319_92 : decode prog_26_method_12_code 92 = .ok (.iinc 5 (-1), 3) := by decide +kernel
theorem d319_95 : decode prog_26_method_12_code 95 = .ok (.iload 5, 2) := by decide +kernel
theorem d319_97 : decode prog_26_method_12_code 97 = .ok (.getstatic 87, 3) := by decide +kernel
theorem d319_100 : decode prog_26_method_12_code 100 = .ok (.iload_n 0, 1) := by decide +kernel
theorem d319_101 : decode prog_26_method_12_code 101 = .ok (.ineg, 1) := by decide +kernel
theorem d319_102 : decode prog_26_method_12_code 102 = .ok (.baload, 1) := by decide +kernel
theorem d319_103 : decode prog_26_method_12_code 103 = .ok (.bastore, 1) := by decide +kernel
theorem d319_104 : decode prog_26_method_12_code 104 = .ok (.iload 6, 2) := by decide +kernel
theorem d319_106 : decode prog_26_method_12_code 106 = .ok (.ifCond .eq 12, 3) := by decide +kernel
theorem d319_109 : decode prog_26_method_12_code 109 = .ok (.aload_n 2, 1) := by decide +kernel
theorem d319_110 : decode prog_26_method_12_code 110 = .ok (.iinc 5 (-1), 3) := by decide +kernel
theorem d319_113 : decode prog_26_method_12_code 113 = .ok (.iload 5, 2) := by decide +kernel
theorem d319_115 : decode prog_26_method_12_code 115 = .ok (.bipush 45, 2) := by decide +kernel
theorem d319_117 : decode prog_26_method_12_code 117 = .ok (.bastore, 1) := by decide +kernel
theorem d319_118 : decode prog_26_method_12_code 118 = .ok (.iload 5, 2) := by decide +kernel
theorem d319_120 : decode prog_26_method_12_code 120 = .ok (.ireturn, 1) := by decide +kernel
theorem d320_0 : decode prog_27_method_59_code 0 = .ok (.iload_n 0, 1) := by decide +kernel
theorem d320_1 : decode prog_27_method_59_code 1 = .ok (.ifCond .ge 8, 3) := by decide +kernel
theorem d320_4 : decode prog_27_method_59_code 4 = .ok (.iload_n 0, 1) := by decide +kernel
theorem d320_5 : decode prog_27_method_59_code 5 = .ok (.ineg, 1) := by decide +kernel
theorem d320_6 : decode prog_27_method_59_code 6 = .ok (.goto 4, 3) := by decide +kernel
theorem d320_9 : decode prog_27_method_59_code 9 = .ok (.iload_n 0, 1) := by decide +kernel
theorem d320_10 : decode prog_27_method_59_code 10 = .ok (.ireturn, 1) := by decide +kernel
theorem d321_0 : decode prog_27_method_65_code 0 = .ok (.iload_n 0, 1) := by decide +kernel
theorem d321_1 : decode prog_27_method_65_code 1 = .ok (.iload_n 1, 1) := by decide +kernel
theorem d321_2 : decode prog_27_method_65_code 2 = .ok (.if_icmp .lt 7, 3) := by decide +kernel
theorem d321_5 : decode prog_27_method_65_code 5 = .ok (.iload_n 0, 1) := by decide +kernel
theorem d321_6 : decode prog_27_method_65_code 6 = .ok (.goto 4, 3) := by decide +kernel
theorem d321_9 : decode prog_27_method_65_code 9 = .ok (.iload_n 1, 1) := by decide +kernel
theorem d321_10 : decode prog_27_method_65_code 10 = .ok (.ireturn, 1) := by decide +kernel
theorem d322_0 : decode prog_27_method_69_code 0 = .ok (.iload_n 0, 1) := by decide +kernel
theorem d322_1 : decode prog_27_method_69_code 1 = .ok (.iload_n 1, 1) := by decide +kernel
theorem d322_2 : decode prog_27_method_69_code 2 = .ok (.if_icmp .gt 7, 3) := by decide +kernel
theorem d322_5 : decode prog_27_method_69_code 5 = .ok (.iload_n 0, 1) := by decide +kernel
theorem d322_6 : decode prog_27_method_69_code 6 = .ok (.goto 4, 3) := by decide +kernel
theorem d322_9 : decode prog_27_method_69_code 9 = .ok (.iload_n 1, 1) := by decide +kernel
theorem d322_10 : decode prog_27_method_69_code 10 = .ok (.ireturn, 1) := by decide +kernel
theorem d323_0 : decode prog_21_method_2_code 0 = .ok (.aload_n 0, 1) := by decide +kernel
theorem d323_1 : decode prog_21_method_2_code 1 = .ok (.getfield 7, 3) := by decide +kernel
theorem d323_4 : decode prog_21_method_2_code 4 = .ok (.ireturn, 1) := by decide +kernel
theorem d324_0 : decode prog_40_method_121_code 0 = .ok (.iload_n 1, 1) := by decide +kernel
theorem d324_1 : decode prog_40_method_121_code 1 = .ok (.aload_n 0, 1) := by decide +kernel
theorem d324_2 : decode prog_40_method_121_code 2 = .ok (.arraylength, 1) := by decide +kernel
theorem d324_3 : decode prog_40_method_121_code 3 = .ok (.if_icmp .ne 11, 3) := by decide +kernel
theorem d324_6 : decode prog_40_method_121_code 6 = .ok (.aload_n 0, 1) := by decide +kernel
theorem d324_7 : decode prog_40_method_121_code 7 = .ok (.invokevirtual 310, 3) := by decide +kernel
theorem d324_10 : decode prog_40_method_121_code 10 = .ok (.checkcast 311, 3) := by decide +kernel
theorem d324_13 : decode prog_40_method_121_code 13 = .ok (.areturn, 1) := by decide +kernel
theorem d324_14 : decode prog_40_method_121_code 14 = .ok (.iload_n 1, 1) := by decide +kernel
theorem d324_15 : decode prog_40_method_121_code 15 = .ok (.newarray .byte, 2) := by decide +kernel
theorem d324_17 : decode prog_40_method_121_code 17 = .ok (.astore_n 2, 1) := by decide +kernel
theorem d324_18 : decode prog_40_method_121_code 18 = .ok (.aload_n 0, 1) := by decide +kernel
theorem d324_19 : decode prog_40_method_121_code 19 = .ok (.iconst 0, 1) := by decide +kernel
theorem d324_20 : decode prog_40_method_121_code 20 = .ok (.aload_n 2, 1) := by decide +kernel
theorem d324_21 : decode prog_40_method_121_code 21 = .ok (.iconst 0, 1) := by decide +kernel
theorem d324_22 : decode prog_40_method_121_code 22 = .ok (.aload_n 0, 1) := by decide +kernel
theorem d324_23 : decode prog_40_method_121_code 23 = .ok (.arraylength, 1) := by decide +kernel
theorem d324_24 : decode prog_40_method_121_code 24 = .ok (.iload_n 1, 1) := by decide +kernel
theorem d324_25 : decode prog_40_method_121_code 25 = .ok (.invokestatic 304, 3) := by decide +kernel
theorem d324_28 : decode prog_40_method_121_code 28 = .ok (.invokestatic 150, 3) := by decide +kernel
theorem d324_31 : decode prog_40_method_121_code 31 = .ok (.aload_n 2, 1) := by decide +kernel
theorem d324_32 : decode prog_40_method_121_code 32 = .ok (.areturn, 1) := by decide +kernel
theorem d325_0 : decode prog_42_method_27_code 0 = .ok (.iload_n 0, 1) := by decide +kernel
theorem d325_1 : decode prog_42_method_27_code 1 = .ok (.iload_n 1, 1) := by decide +kernel
theorem d325_2 : decode prog_42_method_27_code 2 = .ok (.iload_n 2, 1) := by decide +kernel
theorem d325_3 : decode prog_42_method_27_code 3 = .ok (.invokestatic 194, 3) := by decide +kernel
theorem d325_6 : decode prog_42_method_27_code 6 = .ok (.iadd, 1) := by decide +kernel
theorem d325_7 : decode prog_42_method_27_code 7 = .ok (.istore_n 3, 1) := by decide +kernel
theorem d325_8 : decode prog_42_method_27_code 8 = .ok (.iconst 0, 1) := by decide +kernel
theorem d325_9 : decode prog_42_method_27_code 9 = .ok (.iload_n 3, 1) := by decide +kernel
theorem d325_10 : decode prog_42_method_27_code 10 = .ok (.if_icmp .ge 11, 3) := by decide +kernel
theorem d325_13 : decode prog_42_method_27_code 13 = .ok (.iload_n 3, 1) := by decide +kernel
theorem d325_14 : decode prog_42_method_27_code 14 = .ok (.ldc 200, 2) := by decide +kernel
theorem d325_16 : decode prog_42_method_27_code 16 = .ok (.if_icmp .gt 5, 3) := by decide +kernel
theorem d325_19 : decode prog_42_method_27_code 19 = .ok (.iload_n 3, 1) := by decide +kernel
theorem d325_20 : decode prog_42_method_27_code 20 = .ok (.ireturn, 1) := by decide +kernel
theorem d325_21 : decode prog_42_method_27_code 21 = .ok (.iload_n 0, 1) := by decide +kernel
theorem d325_22 : decode prog_42_method_27_code 22 = .ok (.iload_n 1, 1) := by decide +kernel
theorem d325_23 : decode prog_42_method_27_code 23 = .ok (.invokestatic 201, 3) := by decide +kernel
theorem d325_26 : decode prog_42_method_27_code 26 = .ok (.ireturn, 1) := by decide +kernel
theorem d326_0 : decode prog_43_method_11_code 0 = .ok (.iload_n 0, 1) := by decide +kernel
theorem d326_1 : decode prog_43_method_11_code 1 = .ok (.ifCond .lt 8, 3) := by decide +kernel
theorem d326_4 : decode prog_43_method_11_code 4 = .ok (.iload_n 0, 1) := by decide +kernel
theorem d326_5 : decode prog_43_method_11_code 5 = .ok (.iload_n 1, 1) := by decide +kernel
theorem d326_6 : decode prog_43_method_11_code 6 = .ok (.if_icmp .lt 10, 3) := by decide +kernel
theorem d326_9 : decode prog_43_method_11_code 9 = .ok (.aload_n 2, 1) := by decide +kernel
theorem d326_10 : decode prog_43_method_11_code 10 = .ok (.iload_n 0, 1) := by decide +kernel
theorem d326_11 : decode prog_43_method_11_code 11 = .ok (.iload_n 1, 1) := by decide +kernel
theorem d326_12 : decode prog_43_method_11_code 12 = .ok (.invokestatic 95, 3) := by decide +kernel
theorem d326_15 : decode prog_43_method_11_code 15 = .ok (.athrow, 1) := by decide +kernel
theorem d326_16 : decode prog_43_method_11_code 16 = .ok (.iload_n 0, 1) := by decide +kernel
theorem d326_17 : decode prog_43_method_11_code 17 = .ok (.ireturn, 1) := by decide +kernel
