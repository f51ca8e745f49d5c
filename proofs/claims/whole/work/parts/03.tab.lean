/-! tables of the program, by wip/whole/gen_tab.py out of the claim's own papers: classes, methods, links, decode rows -/
def gR0 : String := "RepairBarrows$Barrow"
def gT0 : u_T := fun k => match k with
  | 0 => ("RepairBarrows$Barrow", "x", "I", false)
  | 1 => ("RepairBarrows$Barrow", "y", "I", false)
  | 2 => ("RepairBarrows$Barrow", "clock", "I", false)
  | 3 => ("RepairBarrows$Barrow", "earnings", "I", false)
  | _ => ("RepairBarrows$Barrow", "parts", "[I", true)
def gY0 : Nat → FieldType := fun k => match k with
  | 0 => .int
  | 1 => .int
  | 2 => .int
  | 3 => .int
  | _ => (.array .int)
def gR1 : String := "RepairBarrows$Command"
def gT1 : u_T := fun k => match k with
  | 0 => ("RepairBarrows$Command", "verb", "LRepairBarrows$Verb;", false)
  | _ => ("RepairBarrows$Command", "arguments", "[I", true)
def gY1 : Nat → FieldType := fun k => match k with
  | 0 => (.object "RepairBarrows$Verb")
  | _ => (.array .int)
def gR2 : String := "RepairBarrows$History"
def gT2 : u_T := fun k => match k with
  | 0 => ("RepairBarrows$History", "rows", "[LRepairBarrows$State;", true)
  | 1 => ("RepairBarrows$History", "next", "I", false)
  | _ => ("RepairBarrows$History", "count", "I", false)
def gY2 : Nat → FieldType := fun k => match k with
  | 0 => (.array (.object "RepairBarrows$State"))
  | 1 => .int
  | _ => .int
def gR3 : String := "RepairBarrows$Job"
def gT3 : u_T := fun k => match k with
  | 0 => ("RepairBarrows$Job", "number", "I", false)
  | 1 => ("RepairBarrows$Job", "x", "I", false)
  | 2 => ("RepairBarrows$Job", "y", "I", false)
  | 3 => ("RepairBarrows$Job", "kind", "I", false)
  | 4 => ("RepairBarrows$Job", "tool", "I", false)
  | 5 => ("RepairBarrows$Job", "work", "I", false)
  | 6 => ("RepairBarrows$Job", "due", "I", false)
  | _ => ("RepairBarrows$Job", "barrow", "I", false)
def gY3 : Nat → FieldType := fun k => match k with
  | 0 => .int
  | 1 => .int
  | 2 => .int
  | 3 => .int
  | 4 => .int
  | 5 => .int
  | 6 => .int
  | _ => .int
def gR4 : String := "RepairBarrows$Planner"
def gT4 : u_T := fun k => match k with
  | 0 => ("RepairBarrows$Planner", "jobs", "[LRepairBarrows$Job;", true)
  | 1 => ("RepairBarrows$Planner", "isChosen", "[Z", true)
  | 2 => ("RepairBarrows$Planner", "order", "[I", true)
  | 3 => ("RepairBarrows$Planner", "finishes", "[I", true)
  | 4 => ("RepairBarrows$Planner", "hasBest", "Z", false)
  | 5 => ("RepairBarrows$Planner", "best", "I", false)
  | 6 => ("RepairBarrows$Planner", "bestOrder", "[I", true)
  | 7 => ("RepairBarrows$Planner", "bestFinishes", "[I", true)
  | _ => ("RepairBarrows$Planner", "count", "I", false)
def gY4 : Nat → FieldType := fun k => match k with
  | 0 => (.array (.object "RepairBarrows$Job"))
  | 1 => (.array .boolean)
  | 2 => (.array .int)
  | 3 => (.array .int)
  | 4 => .boolean
  | 5 => .int
  | 6 => (.array .int)
  | 7 => (.array .int)
  | _ => .int
def gR5 : String := "RepairBarrows$Program"
def gT5 : u_T := fun k => match k with
  | 0 => ("RepairBarrows$Program", "text", "[C", true)
  | 1 => ("RepairBarrows$Program", "length", "I", false)
  | 2 => ("RepairBarrows$Program", "at", "I", false)
  | 3 => ("RepairBarrows$Program", "commands", "[LRepairBarrows$Command;", true)
  | _ => ("RepairBarrows$Program", "count", "I", false)
def gY5 : Nat → FieldType := fun k => match k with
  | 0 => (.array .char)
  | 1 => .int
  | 2 => .int
  | 3 => (.array (.object "RepairBarrows$Command"))
  | _ => .int
def gR6 : String := "RepairBarrows$State"
def gT6 : u_T := fun k => match k with
  | 0 => ("RepairBarrows$State", "jobs", "[LRepairBarrows$Job;", true)
  | 1 => ("RepairBarrows$State", "openJobs", "I", false)
  | 2 => ("RepairBarrows$State", "nextNumber", "I", false)
  | 3 => ("RepairBarrows$State", "barrows", "[LRepairBarrows$Barrow;", true)
  | 4 => ("RepairBarrows$State", "stock", "[I", true)
  | 5 => ("RepairBarrows$State", "holders", "[I", true)
  | 6 => ("RepairBarrows$State", "repairedJobs", "I", false)
  | 7 => ("RepairBarrows$State", "hoursOfWork", "J", false)
  | _ => ("RepairBarrows$State", "hoursOfLateness", "J", false)
def gY6 : Nat → FieldType := fun k => match k with
  | 0 => (.array (.object "RepairBarrows$Job"))
  | 1 => .int
  | 2 => .int
  | 3 => (.array (.object "RepairBarrows$Barrow"))
  | 4 => (.array .int)
  | 5 => (.array .int)
  | 6 => .int
  | 7 => .long
  | _ => .long
def gR7 : String := "RepairBarrows"
def gT7 : u_T := fun k => match k with
  | 0 => ("RepairBarrows", "now", "LRepairBarrows$State;", true)
  | 1 => ("RepairBarrows", "saved", "LRepairBarrows$State;", true)
  | 2 => ("RepairBarrows", "hasSaved", "Z", false)
  | 3 => ("RepairBarrows", "history", "LRepairBarrows$History;", true)
  | 4 => ("RepairBarrows", "planner", "LRepairBarrows$Planner;", true)
  | 5 => ("RepairBarrows", "program", "LRepairBarrows$Program;", true)
  | 6 => ("RepairBarrows", "line", "Ljava/lang/StringBuilder;", true)
  | 7 => ("RepairBarrows", "lastError", "I", false)
  | _ => ("RepairBarrows", "lastFailure", "I", false)
def gY7 : Nat → FieldType := fun k => match k with
  | 0 => (.object "RepairBarrows$State")
  | 1 => (.object "RepairBarrows$State")
  | 2 => .boolean
  | 3 => (.object "RepairBarrows$History")
  | 4 => (.object "RepairBarrows$Planner")
  | 5 => (.object "RepairBarrows$Program")
  | 6 => (.object "java/lang/StringBuilder")
  | 7 => .int
  | _ => .int
def gR8 : String := "RepairBarrowsModel"
def gT8 : u_T := fun k => match k with
  | 0 => ("RepairBarrowsModel", "now", "[I", true)
  | 1 => ("RepairBarrowsModel", "before", "[I", true)
  | 2 => ("RepairBarrowsModel", "saved", "[I", true)
  | 3 => ("RepairBarrowsModel", "history", "[I", true)
  | 4 => ("RepairBarrowsModel", "order", "[I", true)
  | 5 => ("RepairBarrowsModel", "best", "[I", true)
  | 6 => ("RepairBarrowsModel", "thrown", "I", false)
  | 7 => ("RepairBarrowsModel", "depth", "I", false)
  | 8 => ("RepairBarrowsModel", "wrongAt", "I", false)
  | 9 => ("RepairBarrowsModel", "failedAt", "I", false)
  | 10 => ("RepairBarrowsModel", "planSize", "I", false)
  | 11 => ("RepairBarrowsModel", "bestLate", "I", false)
  | 12 => ("RepairBarrowsModel", "isSaved", "Z", false)
  | 13 => ("RepairBarrowsModel", "output", "[I", true)
  | 14 => ("RepairBarrowsModel", "outputLength", "I", false)
  | 15 => ("RepairBarrowsModel", "input", "[I", true)
  | 16 => ("RepairBarrowsModel", "kinds", "[I", true)
  | 17 => ("RepairBarrowsModel", "arguments", "[I", true)
  | 18 => ("RepairBarrowsModel", "length", "I", false)
  | 19 => ("RepairBarrowsModel", "programLength", "I", false)
  | 20 => ("RepairBarrowsModel", "at", "I", false)
  | 21 => ("RepairBarrowsModel", "commands", "I", false)
  | _ => ("RepairBarrowsModel", "isWrong", "Z", false)
def gY8 : Nat → FieldType := fun k => match k with
  | 0 => (.array .int)
  | 1 => (.array .int)
  | 2 => (.array .int)
  | 3 => (.array .int)
  | 4 => (.array .int)
  | 5 => (.array .int)
  | 6 => .int
  | 7 => .int
  | 8 => .int
  | 9 => .int
  | 10 => .int
  | 11 => .int
  | 12 => .boolean
  | 13 => (.array .int)
  | 14 => .int
  | 15 => (.array .int)
  | 16 => (.array .int)
  | 17 => (.array .int)
  | 18 => .int
  | 19 => .int
  | 20 => .int
  | 21 => .int
  | _ => .boolean
def gR9 : String := "java/lang/StringBuilder"
def gT9 : u_T := fun k => match k with
  | 0 => ("java/lang/AbstractStringBuilder", "value", "[B", false)
  | 1 => ("java/lang/AbstractStringBuilder", "coder", "B", false)
  | 2 => ("java/lang/AbstractStringBuilder", "maybeLatin1", "Z", false)
  | _ => ("java/lang/AbstractStringBuilder", "count", "I", false)
def gY9 : Nat → FieldType := fun k => match k with
  | 0 => (.array .byte)
  | 1 => .byte
  | 2 => .boolean
  | _ => .int
def gR10 : String := "java/lang/String"
def gT10 : u_T := fun k => match k with
  | 0 => ("java/lang/String", "value", "[B", true)
  | _ => ("java/lang/String", "coder", "B", true)
def gY10 : Nat → FieldType := fun k => match k with
  | 0 => (.array .byte)
  | _ => .byte
def gR11 : String := "RepairBarrows$Verb"
def gT11 : u_T := fun k => match k with
  | 0 => ("java/lang/Enum", "ordinal", "I", true)
  | _ => ("RepairBarrows$Verb", "shape", "Ljava/lang/String;", true)
def gY11 : Nat → FieldType := fun k => match k with
  | 0 => .int
  | _ => (.object "java/lang/String")
def gC : List vw_C := [(gR0, gT0, 5), (gR1, gT1, 2), (gR2, gT2, 3), (gR3, gT3, 8), (gR4, gT4, 9), (gR5, gT5, 5), (gR6, gT6, 9), (gR7, gT7, 9), (gR8, gT8, 23), (gR9, gT9, 4), (gR10, gT10, 2), (gR11, gT11, 2)]
def gY : List (Nat → FieldType) := [gY0, gY1, gY2, gY3, gY4, gY5, gY6, gY7, gY8, gY9, gY10, gY11]
def gO : List String := ["RepairBarrows$Barrow", "RepairBarrows$Command", "RepairBarrows$History", "RepairBarrows$Job", "RepairBarrows$Planner", "RepairBarrows$Program", "RepairBarrows$State", "RepairBarrows", "RepairBarrowsModel", "RepairBarrowsLaw", "java/lang/AbstractStringBuilder", "java/lang/StringBuilder", "java/lang/String", "java/lang/StringLatin1", "java/lang/Integer", "java/lang/Enum", "java/util/Arrays", "jdk/internal/util/ArraysSupport", "jdk/internal/util/Preconditions"]
abbrev gM : Type := MethodName × ByteArray × Nat × Option FieldType × Nat × List (Nat × Nat × Nat × Nat × String)
abbrev mBarrow_init : Nat := 0
def gm0 : gM := (⟨"RepairBarrows$Barrow", "<init>", "()V"⟩, prog_3_method_1_code, 1, none, 0, [])
abbrev mBarrow_countParts : Nat := 1
def gm1 : gM := (⟨"RepairBarrows$Barrow", "countParts", "()I"⟩, prog_3_method_4_code, 6, (some .int), 0, [])
abbrev mBarrow_copyFrom : Nat := 2
def gm2 : gM := (⟨"RepairBarrows$Barrow", "copyFrom", "(LRepairBarrows$Barrow;)V"⟩, prog_3_method_2_code, 2, none, 0, [])
abbrev mBarrow_isAtShed : Nat := 3
def gm3 : gM := (⟨"RepairBarrows$Barrow", "isAtShed", "()Z"⟩, prog_3_method_3_code, 1, (some .boolean), 0, [])
abbrev mBarrow_finishOf : Nat := 4
def gm4 : gM := (⟨"RepairBarrows$Barrow", "finishOf", "(LRepairBarrows$Job;)I"⟩, prog_3_method_6_code, 2, (some .int), 0, [])
abbrev mBarrow_usePart : Nat := 5
def gm5 : gM := (⟨"RepairBarrows$Barrow", "usePart", "(I)V"⟩, prog_3_method_5_code, 2, none, 0, [])
abbrev mBarrow_ranksBefore : Nat := 6
def gm6 : gM := (⟨"RepairBarrows$Barrow", "ranksBefore", "(LRepairBarrows$Barrow;)Z"⟩, prog_3_method_7_code, 2, (some .boolean), 0, [])
abbrev mCommand_init : Nat := 7
def gm7 : gM := (⟨"RepairBarrows$Command", "<init>", "()V"⟩, prog_4_method_1_code, 1, none, 1, [])
abbrev mHistory_init : Nat := 8
def gm8 : gM := (⟨"RepairBarrows$History", "<init>", "()V"⟩, prog_5_method_1_code, 2, none, 2, [])
abbrev mHistory_prepare : Nat := 9
def gm9 : gM := (⟨"RepairBarrows$History", "prepare", "(LRepairBarrows$State;)V"⟩, prog_5_method_2_code, 2, none, 2, [])
abbrev mHistory_confirm : Nat := 10
def gm10 : gM := (⟨"RepairBarrows$History", "confirm", "()V"⟩, prog_5_method_3_code, 1, none, 2, [])
abbrev mHistory_abandon : Nat := 11
def gm11 : gM := (⟨"RepairBarrows$History", "abandon", "(LRepairBarrows$State;)V"⟩, prog_5_method_4_code, 2, none, 2, [])
abbrev mHistory_takeBack : Nat := 12
def gm12 : gM := (⟨"RepairBarrows$History", "takeBack", "(LRepairBarrows$State;)V"⟩, prog_5_method_5_code, 2, none, 2, [])
abbrev mHistory_forget : Nat := 13
def gm13 : gM := (⟨"RepairBarrows$History", "forget", "()V"⟩, prog_5_method_6_code, 1, none, 2, [])
abbrev mJob_init : Nat := 14
def gm14 : gM := (⟨"RepairBarrows$Job", "<init>", "()V"⟩, prog_6_method_1_code, 1, none, 3, [])
abbrev mJob_copyFrom : Nat := 15
def gm15 : gM := (⟨"RepairBarrows$Job", "copyFrom", "(LRepairBarrows$Job;)V"⟩, prog_6_method_2_code, 2, none, 3, [])
abbrev mJob_finishFrom : Nat := 16
def gm16 : gM := (⟨"RepairBarrows$Job", "finishFrom", "(III)I"⟩, prog_6_method_3_code, 4, (some .int), 3, [])
abbrev mJob_latenessAt : Nat := 17
def gm17 : gM := (⟨"RepairBarrows$Job", "latenessAt", "(I)I"⟩, prog_6_method_4_code, 2, (some .int), 3, [])
abbrev mJob_isDueBefore : Nat := 18
def gm18 : gM := (⟨"RepairBarrows$Job", "isDueBefore", "(LRepairBarrows$Job;)Z"⟩, prog_6_method_5_code, 2, (some .boolean), 3, [])
abbrev mPlanner_init : Nat := 19
def gm19 : gM := (⟨"RepairBarrows$Planner", "<init>", "()V"⟩, prog_7_method_1_code, 2, none, 4, [])
abbrev mPlanner_leastByRecursion : Nat := 20
def gm20 : gM := (⟨"RepairBarrows$Planner", "leastByRecursion", "(LRepairBarrows$State;I)I"⟩, prog_7_method_2_code, 4, (some .int), 4, [])
abbrev mPlanner_collect : Nat := 21
def gm21 : gM := (⟨"RepairBarrows$Planner", "collect", "(LRepairBarrows$State;I)V"⟩, prog_7_method_4_code, 4, none, 4, [])
abbrev mPlanner_choose : Nat := 22
def gm22 : gM := (⟨"RepairBarrows$Planner", "choose", "(IIIII)V"⟩, prog_7_method_5_code, 7, none, 4, [])
abbrev mPlanner_keepIfBetter : Nat := 23
def gm23 : gM := (⟨"RepairBarrows$Planner", "keepIfBetter", "(I)V"⟩, prog_7_method_7_code, 2, none, 4, [])
abbrev mPlanner_goOnWith : Nat := 24
def gm24 : gM := (⟨"RepairBarrows$Planner", "goOnWith", "(LRepairBarrows$Job;III)V"⟩, prog_7_method_6_code, 5, none, 4, [])
abbrev mPlanner_leastByOrders : Nat := 25
def gm25 : gM := (⟨"RepairBarrows$Planner", "leastByOrders", "(LRepairBarrows$State;I)I"⟩, prog_7_method_3_code, 5, (some .int), 4, [])
abbrev mPlanner_latenessInOrder : Nat := 26
def gm26 : gM := (⟨"RepairBarrows$Planner", "latenessInOrder", "(LRepairBarrows$Barrow;)I"⟩, prog_7_method_8_code, 8, (some .int), 4, [])
abbrev mPlanner_goToNextOrder : Nat := 27
def gm27 : gM := (⟨"RepairBarrows$Planner", "goToNextOrder", "()Z"⟩, prog_7_method_9_code, 5, (some .boolean), 4, [])
abbrev mPlanner_swap : Nat := 28
def gm28 : gM := (⟨"RepairBarrows$Planner", "swap", "(II)V"⟩, prog_7_method_10_code, 4, none, 4, [])
abbrev mProgram_init : Nat := 29
def gm29 : gM := (⟨"RepairBarrows$Program", "<init>", "()V"⟩, prog_8_method_1_code, 2, none, 5, [])
abbrev mProgram_isFull : Nat := 30
def gm30 : gM := (⟨"RepairBarrows$Program", "isFull", "()Z"⟩, prog_8_method_2_code, 1, (some .boolean), 5, [])
abbrev mProgram_append : Nat := 31
def gm31 : gM := (⟨"RepairBarrows$Program", "append", "(C)I"⟩, prog_8_method_3_code, 2, (some .int), 5, [])
abbrev mProgram_parse : Nat := 32
def gm32 : gM := (⟨"RepairBarrows$Program", "parse", "()I"⟩, prog_8_method_5_code, 2, (some .int), 5, [])
abbrev mProgram_readCommand : Nat := 33
def gm33 : gM := (⟨"RepairBarrows$Program", "readCommand", "(LRepairBarrows$Command;)Z"⟩, prog_8_method_6_code, 8, (some .boolean), 5, [])
abbrev mProgram_readShape : Nat := 34
def gm34 : gM := (⟨"RepairBarrows$Program", "readShape", "(Ljava/lang/String;[I)Z"⟩, prog_8_method_7_code, 7, (some .boolean), 5, [])
abbrev mProgram_readArgument : Nat := 35
def gm35 : gM := (⟨"RepairBarrows$Program", "readArgument", "(C)I"⟩, prog_8_method_8_code, 2, (some .int), 5, [])
abbrev mProgram_readNumber : Nat := 36
def gm36 : gM := (⟨"RepairBarrows$Program", "readNumber", "()I"⟩, prog_8_method_9_code, 4, (some .int), 5, [])
abbrev mProgram_readDigit : Nat := 37
def gm37 : gM := (⟨"RepairBarrows$Program", "readDigit", "()I"⟩, prog_8_method_10_code, 2, (some .int), 5, [])
abbrev mProgram_readKind : Nat := 38
def gm38 : gM := (⟨"RepairBarrows$Program", "readKind", "()I"⟩, prog_8_method_11_code, 2, (some .int), 5, [])
abbrev mProgram_readSign : Nat := 39
def gm39 : gM := (⟨"RepairBarrows$Program", "readSign", "(C)Z"⟩, prog_8_method_12_code, 2, (some .boolean), 5, [])
abbrev mProgram_empty : Nat := 40
def gm40 : gM := (⟨"RepairBarrows$Program", "empty", "()V"⟩, prog_8_method_4_code, 1, none, 5, [])
abbrev mState_init : Nat := 41
def gm41 : gM := (⟨"RepairBarrows$State", "<init>", "()V"⟩, prog_9_method_1_code, 2, none, 6, [])
abbrev mState_findJob : Nat := 42
def gm42 : gM := (⟨"RepairBarrows$State", "findJob", "(I)LRepairBarrows$Job;"⟩, prog_9_method_14_code, 3, (some (.object "RepairBarrows$Job")), 6, [])
abbrev mState_countAssigned : Nat := 43
def gm43 : gM := (⟨"RepairBarrows$State", "countAssigned", "(I)I"⟩, prog_9_method_18_code, 4, (some .int), 6, [])
abbrev mState_copyFrom : Nat := 44
def gm44 : gM := (⟨"RepairBarrows$State", "copyFrom", "(LRepairBarrows$State;)V"⟩, prog_9_method_2_code, 3, none, 6, [])
abbrev mState_enterJob : Nat := 45
def gm45 : gM := (⟨"RepairBarrows$State", "enterJob", "(IIIIII)I"⟩, prog_9_method_3_code, 8, (some .int), 6, [])
abbrev mState_dropJob : Nat := 46
def gm46 : gM := (⟨"RepairBarrows$State", "dropJob", "(I)I"⟩, prog_9_method_4_code, 3, (some .int), 6, [])
abbrev mState_close : Nat := 47
def gm47 : gM := (⟨"RepairBarrows$State", "close", "(LRepairBarrows$Job;)V"⟩, prog_9_method_15_code, 4, none, 6, [])
abbrev mState_handJob : Nat := 48
def gm48 : gM := (⟨"RepairBarrows$State", "handJob", "(II)I"⟩, prog_9_method_5_code, 4, (some .int), 6, [])
abbrev mState_withdrawJob : Nat := 49
def gm49 : gM := (⟨"RepairBarrows$State", "withdrawJob", "(I)I"⟩, prog_9_method_6_code, 4, (some .int), 6, [])
abbrev mState_fillStock : Nat := 50
def gm50 : gM := (⟨"RepairBarrows$State", "fillStock", "(II)I"⟩, prog_9_method_7_code, 3, (some .int), 6, [])
abbrev mState_loadParts : Nat := 51
def gm51 : gM := (⟨"RepairBarrows$State", "loadParts", "(III)I"⟩, prog_9_method_8_code, 5, (some .int), 6, [])
abbrev mState_lendTool : Nat := 52
def gm52 : gM := (⟨"RepairBarrows$State", "lendTool", "(II)I"⟩, prog_9_method_9_code, 3, (some .int), 6, [])
abbrev mState_countTools : Nat := 53
def gm53 : gM := (⟨"RepairBarrows$State", "countTools", "(I)I"⟩, prog_9_method_19_code, 7, (some .int), 6, [])
abbrev mState_returnTool : Nat := 54
def gm54 : gM := (⟨"RepairBarrows$State", "returnTool", "(II)I"⟩, prog_9_method_10_code, 3, (some .int), 6, [])
abbrev mState_fixJob : Nat := 55
def gm55 : gM := (⟨"RepairBarrows$State", "fixJob", "(II)I"⟩, prog_9_method_11_code, 7, (some .int), 6, [])
abbrev mState_hasTool : Nat := 56
def gm56 : gM := (⟨"RepairBarrows$State", "hasTool", "(ILRepairBarrows$Job;)Z"⟩, prog_9_method_20_code, 3, (some .boolean), 6, [])
abbrev mState_hasPart : Nat := 57
def gm57 : gM := (⟨"RepairBarrows$State", "hasPart", "(ILRepairBarrows$Job;)Z"⟩, prog_9_method_21_code, 3, (some .boolean), 6, [])
abbrev mState_driveHome : Nat := 58
def gm58 : gM := (⟨"RepairBarrows$State", "driveHome", "(I)I"⟩, prog_9_method_12_code, 3, (some .int), 6, [])
abbrev mState_pause : Nat := 59
def gm59 : gM := (⟨"RepairBarrows$State", "pause", "(II)I"⟩, prog_9_method_13_code, 3, (some .int), 6, [])
abbrev mState_dueRank : Nat := 60
def gm60 : gM := (⟨"RepairBarrows$State", "dueRank", "(LRepairBarrows$Job;)I"⟩, prog_9_method_16_code, 4, (some .int), 6, [])
abbrev mState_earningsRank : Nat := 61
def gm61 : gM := (⟨"RepairBarrows$State", "earningsRank", "(I)I"⟩, prog_9_method_17_code, 5, (some .int), 6, [])
abbrev mMain_init : Nat := 62
def gm62 : gM := (⟨"RepairBarrows", "<init>", "()V"⟩, prog_1_method_1_code, 1, none, 7, [])
abbrev mMain_jobs : Nat := 63
def gm63 : gM := (⟨"RepairBarrows", "jobs", "()I"⟩, prog_1_method_13_code, 1, (some .int), 7, [])
abbrev mMain_isOpen : Nat := 64
def gm64 : gM := (⟨"RepairBarrows", "isOpen", "(I)Z"⟩, prog_1_method_14_code, 2, (some .boolean), 7, [])
abbrev mMain_totalEarnings : Nat := 65
def gm65 : gM := (⟨"RepairBarrows", "totalEarnings", "()J"⟩, prog_1_method_36_code, 7, (some .long), 7, [])
abbrev mMain_totalEarningsByHours : Nat := 66
def gm66 : gM := (⟨"RepairBarrows", "totalEarningsByHours", "()J"⟩, prog_1_method_37_code, 1, (some .long), 7, [])
abbrev mMain_repaired : Nat := 67
def gm67 : gM := (⟨"RepairBarrows", "repaired", "()I"⟩, prog_1_method_38_code, 1, (some .int), 7, [])
abbrev mMain_borrowedShare : Nat := 68
def gm68 : gM := (⟨"RepairBarrows", "borrowedShare", "()F"⟩, prog_1_method_40_code, 6, (some .float), 7, [])
abbrev mMain_isConsistent : Nat := 69
def gm69 : gM := (⟨"RepairBarrows", "isConsistent", "()Z"⟩, prog_1_method_42_code, 2, (some .boolean), 7, [])
abbrev mMain_isBarrow : Nat := 70
def gm70 : gM := (⟨"RepairBarrows", "isBarrow", "(I)Z"⟩, prog_1_method_63_code, 1, (some .boolean), 7, [])
abbrev mMain_distance : Nat := 71
def gm71 : gM := (⟨"RepairBarrows", "distance", "(IIII)I"⟩, prog_1_method_65_code, 4, (some .int), 7, [])
abbrev mMain_save : Nat := 72
def gm72 : gM := (⟨"RepairBarrows", "save", "()I"⟩, prog_1_method_51_code, 1, (some .int), 7, [])
abbrev mMain_addJob : Nat := 73
def gm73 : gM := (⟨"RepairBarrows", "addJob", "(IICIII)I"⟩, prog_1_method_2_code, 7, (some .int), 7, [])
abbrev mMain_kindIndex : Nat := 74
def gm74 : gM := (⟨"RepairBarrows", "kindIndex", "(C)I"⟩, prog_1_method_59_code, 1, (some .int), 7, [])
abbrev mMain_isCoordinate : Nat := 75
def gm75 : gM := (⟨"RepairBarrows", "isCoordinate", "(I)Z"⟩, prog_1_method_64_code, 1, (some .boolean), 7, [])
abbrev mMain_isKind : Nat := 76
def gm76 : gM := (⟨"RepairBarrows", "isKind", "(I)Z"⟩, prog_1_method_61_code, 1, (some .boolean), 7, [])
abbrev mMain_isTool : Nat := 77
def gm77 : gM := (⟨"RepairBarrows", "isTool", "(I)Z"⟩, prog_1_method_62_code, 1, (some .boolean), 7, [])
abbrev mMain_settle : Nat := 78
def gm78 : gM := (⟨"RepairBarrows", "settle", "(I)I"⟩, prog_1_method_53_code, 2, (some .int), 7, [])
abbrev mMain_cancelJob : Nat := 79
def gm79 : gM := (⟨"RepairBarrows", "cancelJob", "(I)I"⟩, prog_1_method_3_code, 2, (some .int), 7, [])
abbrev mMain_assign : Nat := 80
def gm80 : gM := (⟨"RepairBarrows", "assign", "(II)I"⟩, prog_1_method_4_code, 3, (some .int), 7, [])
abbrev mMain_unassign : Nat := 81
def gm81 : gM := (⟨"RepairBarrows", "unassign", "(I)I"⟩, prog_1_method_5_code, 2, (some .int), 7, [])
abbrev mMain_addStock : Nat := 82
def gm82 : gM := (⟨"RepairBarrows", "addStock", "(CI)I"⟩, prog_1_method_6_code, 3, (some .int), 7, [])
abbrev mMain_load : Nat := 83
def gm83 : gM := (⟨"RepairBarrows", "load", "(ICI)I"⟩, prog_1_method_7_code, 4, (some .int), 7, [])
abbrev mMain_borrow : Nat := 84
def gm84 : gM := (⟨"RepairBarrows", "borrow", "(II)I"⟩, prog_1_method_8_code, 3, (some .int), 7, [])
abbrev mMain_giveBack : Nat := 85
def gm85 : gM := (⟨"RepairBarrows", "giveBack", "(II)I"⟩, prog_1_method_9_code, 3, (some .int), 7, [])
abbrev mMain_repair : Nat := 86
def gm86 : gM := (⟨"RepairBarrows", "repair", "(II)I"⟩, prog_1_method_10_code, 3, (some .int), 7, [])
abbrev mMain_goHome : Nat := 87
def gm87 : gM := (⟨"RepairBarrows", "goHome", "(I)I"⟩, prog_1_method_11_code, 2, (some .int), 7, [])
abbrev mMain_rest : Nat := 88
def gm88 : gM := (⟨"RepairBarrows", "rest", "(II)I"⟩, prog_1_method_12_code, 3, (some .int), 7, [])
abbrev mMain_kind : Nat := 89
def gm89 : gM := (⟨"RepairBarrows", "kind", "(I)C"⟩, prog_1_method_15_code, 2, (some .char), 7, [])
abbrev mMain_openJob : Nat := 90
def gm90 : gM := (⟨"RepairBarrows", "openJob", "(I)LRepairBarrows$Job;"⟩, prog_1_method_57_code, 3, (some (.object "RepairBarrows$Job")), 7, [])
abbrev mMain_kindLetter : Nat := 91
def gm91 : gM := (⟨"RepairBarrows", "kindLetter", "(I)C"⟩, prog_1_method_60_code, 1, (some .char), 7, [])
abbrev mMain_tool : Nat := 92
def gm92 : gM := (⟨"RepairBarrows", "tool", "(I)I"⟩, prog_1_method_16_code, 2, (some .int), 7, [])
abbrev mMain_due : Nat := 93
def gm93 : gM := (⟨"RepairBarrows", "due", "(I)I"⟩, prog_1_method_17_code, 2, (some .int), 7, [])
abbrev mMain_barrowOf : Nat := 94
def gm94 : gM := (⟨"RepairBarrows", "barrowOf", "(I)I"⟩, prog_1_method_18_code, 3, (some .int), 7, [])
abbrev mMain_jobByDue : Nat := 95
def gm95 : gM := (⟨"RepairBarrows", "jobByDue", "(I)I"⟩, prog_1_method_19_code, 4, (some .int), 7, [])
abbrev mMain_stock : Nat := 96
def gm96 : gM := (⟨"RepairBarrows", "stock", "(C)I"⟩, prog_1_method_20_code, 2, (some .int), 7, [])
abbrev mMain_checkedKind : Nat := 97
def gm97 : gM := (⟨"RepairBarrows", "checkedKind", "(C)I"⟩, prog_1_method_58_code, 2, (some .int), 7, [])
abbrev mMain_parts : Nat := 98
def gm98 : gM := (⟨"RepairBarrows", "parts", "(IC)I"⟩, prog_1_method_21_code, 4, (some .int), 7, [])
abbrev mMain_checkedBarrow : Nat := 99
def gm99 : gM := (⟨"RepairBarrows", "checkedBarrow", "(I)LRepairBarrows$Barrow;"⟩, prog_1_method_56_code, 2, (some (.object "RepairBarrows$Barrow")), 7, [])
abbrev mMain_tools : Nat := 100
def gm100 : gM := (⟨"RepairBarrows", "tools", "(I)I"⟩, prog_1_method_22_code, 2, (some .int), 7, [])
abbrev mMain_holder : Nat := 101
def gm101 : gM := (⟨"RepairBarrows", "holder", "(I)I"⟩, prog_1_method_23_code, 3, (some .int), 7, [])
abbrev mMain_barrowX : Nat := 102
def gm102 : gM := (⟨"RepairBarrows", "barrowX", "(I)I"⟩, prog_1_method_24_code, 2, (some .int), 7, [])
abbrev mMain_barrowY : Nat := 103
def gm103 : gM := (⟨"RepairBarrows", "barrowY", "(I)I"⟩, prog_1_method_25_code, 2, (some .int), 7, [])
abbrev mMain_clock : Nat := 104
def gm104 : gM := (⟨"RepairBarrows", "clock", "(I)I"⟩, prog_1_method_26_code, 2, (some .int), 7, [])
abbrev mMain_isHome : Nat := 105
def gm105 : gM := (⟨"RepairBarrows", "isHome", "(I)Z"⟩, prog_1_method_27_code, 2, (some .boolean), 7, [])
abbrev mMain_assigned : Nat := 106
def gm106 : gM := (⟨"RepairBarrows", "assigned", "(I)I"⟩, prog_1_method_28_code, 2, (some .int), 7, [])
abbrev mMain_canRepair : Nat := 107
def gm107 : gM := (⟨"RepairBarrows", "canRepair", "(II)Z"⟩, prog_1_method_29_code, 4, (some .boolean), 7, [])
abbrev mMain_finish : Nat := 108
def gm108 : gM := (⟨"RepairBarrows", "finish", "(II)I"⟩, prog_1_method_30_code, 4, (some .int), 7, [])
abbrev mMain_fastestBarrow : Nat := 109
def gm109 : gM := (⟨"RepairBarrows", "fastestBarrow", "(I)I"⟩, prog_1_method_31_code, 5, (some .int), 7, [])
abbrev mMain_bestLateness : Nat := 110
def gm110 : gM := (⟨"RepairBarrows", "bestLateness", "(I)I"⟩, prog_1_method_32_code, 2, (some .int), 7, [])
abbrev mMain_bestLatenessByOrders : Nat := 111
def gm111 : gM := (⟨"RepairBarrows", "bestLatenessByOrders", "(I)I"⟩, prog_1_method_33_code, 2, (some .int), 7, [])
abbrev mMain_planned : Nat := 112
def gm112 : gM := (⟨"RepairBarrows", "planned", "(II)I"⟩, prog_1_method_34_code, 3, (some .int), 7, [])
abbrev mMain_earnings : Nat := 113
def gm113 : gM := (⟨"RepairBarrows", "earnings", "(I)I"⟩, prog_1_method_35_code, 2, (some .int), 7, [])
abbrev mMain_meanLateness : Nat := 114
def gm114 : gM := (⟨"RepairBarrows", "meanLateness", "()D"⟩, prog_1_method_39_code, 1, (some .double), 7, [])
abbrev mMain_barrowByEarnings : Nat := 115
def gm115 : gM := (⟨"RepairBarrows", "barrowByEarnings", "(I)I"⟩, prog_1_method_41_code, 3, (some .int), 7, [])
abbrev mMain_writeBarrow : Nat := 116
def gm116 : gM := (⟨"RepairBarrows", "writeBarrow", "(I)I"⟩, prog_1_method_43_code, 4, (some .int), 7, [])
abbrev mMain_writePlan : Nat := 117
def gm117 : gM := (⟨"RepairBarrows", "writePlan", "(I)I"⟩, prog_1_method_44_code, 3, (some .int), 7, [])
abbrev mMain_charAt : Nat := 118
def gm118 : gM := (⟨"RepairBarrows", "charAt", "(I)C"⟩, prog_1_method_45_code, 2, (some .char), 7, [])
abbrev mMain_type : Nat := 119
def gm119 : gM := (⟨"RepairBarrows", "type", "(C)I"⟩, prog_1_method_46_code, 2, (some .int), 7, [])
abbrev mMain_run : Nat := 120
def gm120 : gM := (⟨"RepairBarrows", "run", "()I"⟩, prog_1_method_47_code, 3, (some .int), 7, [])
abbrev mMain_firstFailure : Nat := 121
def gm121 : gM := (⟨"RepairBarrows", "firstFailure", "()I"⟩, prog_1_method_54_code, 2, (some .int), 7, [])
abbrev mMain_execute : Nat := 122
def gm122 : gM := (⟨"RepairBarrows", "execute", "(LRepairBarrows$Command;)I"⟩, prog_1_method_55_code, 3, (some .int), 7, [])
abbrev mMain_errorPosition : Nat := 123
def gm123 : gM := (⟨"RepairBarrows", "errorPosition", "()I"⟩, prog_1_method_48_code, 1, (some .int), 7, [])
abbrev mMain_failedCommand : Nat := 124
def gm124 : gM := (⟨"RepairBarrows", "failedCommand", "()I"⟩, prog_1_method_49_code, 1, (some .int), 7, [])
abbrev mMain_undo : Nat := 125
def gm125 : gM := (⟨"RepairBarrows", "undo", "()I"⟩, prog_1_method_50_code, 1, (some .int), 7, [])
abbrev mMain_restore : Nat := 126
def gm126 : gM := (⟨"RepairBarrows", "restore", "()I"⟩, prog_1_method_52_code, 1, (some .int), 7, [])
abbrev mModel_init : Nat := 127
def gm127 : gM := (⟨"RepairBarrowsModel", "<init>", "()V"⟩, prog_12_method_1_code, 1, none, 8, [])
abbrev mModel_thrown : Nat := 128
def gm128 : gM := (⟨"RepairBarrowsModel", "thrown", "()I"⟩, prog_12_method_2_code, 1, (some .int), 8, [])
abbrev mModel_addJob : Nat := 129
def gm129 : gM := (⟨"RepairBarrowsModel", "addJob", "(IICIII)I"⟩, prog_12_method_17_code, 8, (some .int), 8, [])
abbrev mModel_begin : Nat := 130
def gm130 : gM := (⟨"RepairBarrowsModel", "begin", "()V"⟩, prog_12_method_6_code, 1, none, 8, [])
abbrev mModel_copy : Nat := 131
def gm131 : gM := (⟨"RepairBarrowsModel", "copy", "([II[II)V"⟩, prog_12_method_4_code, 5, none, 8, [])
abbrev mModel_cannotAdd : Nat := 132
def gm132 : gM := (⟨"RepairBarrowsModel", "cannotAdd", "(IIIIII)I"⟩, prog_12_method_15_code, 7, (some .int), 8, [])
abbrev mModel_in : Nat := 133
def gm133 : gM := (⟨"RepairBarrowsModel", "in", "(III)Z"⟩, prog_12_method_3_code, 3, (some .boolean), 8, [])
abbrev mModel_isKind : Nat := 134
def gm134 : gM := (⟨"RepairBarrowsModel", "isKind", "(I)Z"⟩, prog_12_method_13_code, 1, (some .boolean), 8, [])
abbrev mModel_isTool : Nat := 135
def gm135 : gM := (⟨"RepairBarrowsModel", "isTool", "(I)Z"⟩, prog_12_method_14_code, 1, (some .boolean), 8, [])
abbrev mModel_fail : Nat := 136
def gm136 : gM := (⟨"RepairBarrowsModel", "fail", "(I)I"⟩, prog_12_method_5_code, 2, (some .int), 8, [])
abbrev mModel_adds : Nat := 137
def gm137 : gM := (⟨"RepairBarrowsModel", "adds", "(IIIIII)I"⟩, prog_12_method_16_code, 8, (some .int), 8, [])
abbrev mModel_commit : Nat := 138
def gm138 : gM := (⟨"RepairBarrowsModel", "commit", "(I)I"⟩, prog_12_method_7_code, 3, (some .int), 8, [])
abbrev mModel_cancelJob : Nat := 139
def gm139 : gM := (⟨"RepairBarrowsModel", "cancelJob", "(I)I"⟩, prog_12_method_19_code, 2, (some .int), 8, [])
abbrev mModel_find : Nat := 140
def gm140 : gM := (⟨"RepairBarrowsModel", "find", "(I)I"⟩, prog_12_method_11_code, 3, (some .int), 8, [])
abbrev mModel_j : Nat := 141
def gm141 : gM := (⟨"RepairBarrowsModel", "j", "(II)I"⟩, prog_12_method_8_code, 3, (some .int), 8, [])
abbrev mModel_removes : Nat := 142
def gm142 : gM := (⟨"RepairBarrowsModel", "removes", "(I)I"⟩, prog_12_method_18_code, 3, (some .int), 8, [])
abbrev mModel_assign : Nat := 143
def gm143 : gM := (⟨"RepairBarrowsModel", "assign", "(II)I"⟩, prog_12_method_23_code, 4, (some .int), 8, [])
abbrev mModel_cannotAssign : Nat := 144
def gm144 : gM := (⟨"RepairBarrowsModel", "cannotAssign", "(II)I"⟩, prog_12_method_21_code, 3, (some .int), 8, [])
abbrev mModel_isBarrow : Nat := 145
def gm145 : gM := (⟨"RepairBarrowsModel", "isBarrow", "(I)Z"⟩, prog_12_method_12_code, 1, (some .boolean), 8, [])
abbrev mModel_givenTo : Nat := 146
def gm146 : gM := (⟨"RepairBarrowsModel", "givenTo", "(I)I"⟩, prog_12_method_20_code, 4, (some .int), 8, [])
abbrev mModel_assigns : Nat := 147
def gm147 : gM := (⟨"RepairBarrowsModel", "assigns", "(II)I"⟩, prog_12_method_22_code, 3, (some .int), 8, [])
abbrev mModel_unassign : Nat := 148
def gm148 : gM := (⟨"RepairBarrowsModel", "unassign", "(I)I"⟩, prog_12_method_26_code, 3, (some .int), 8, [])
abbrev mModel_cannotUnassign : Nat := 149
def gm149 : gM := (⟨"RepairBarrowsModel", "cannotUnassign", "(I)I"⟩, prog_12_method_24_code, 2, (some .int), 8, [])
abbrev mModel_unassigns : Nat := 150
def gm150 : gM := (⟨"RepairBarrowsModel", "unassigns", "(I)I"⟩, prog_12_method_25_code, 3, (some .int), 8, [])
abbrev mModel_addStock : Nat := 151
def gm151 : gM := (⟨"RepairBarrowsModel", "addStock", "(CI)I"⟩, prog_12_method_29_code, 4, (some .int), 8, [])
abbrev mModel_cannotStock : Nat := 152
def gm152 : gM := (⟨"RepairBarrowsModel", "cannotStock", "(II)I"⟩, prog_12_method_27_code, 3, (some .int), 8, [])
abbrev mModel_stocks : Nat := 153
def gm153 : gM := (⟨"RepairBarrowsModel", "stocks", "(II)I"⟩, prog_12_method_28_code, 3, (some .int), 8, [])
abbrev mModel_load : Nat := 154
def gm154 : gM := (⟨"RepairBarrowsModel", "load", "(ICI)I"⟩, prog_12_method_34_code, 5, (some .int), 8, [])
abbrev mModel_cannotLoad : Nat := 155
def gm155 : gM := (⟨"RepairBarrowsModel", "cannotLoad", "(III)I"⟩, prog_12_method_32_code, 4, (some .int), 8, [])
abbrev mModel_home : Nat := 156
def gm156 : gM := (⟨"RepairBarrowsModel", "home", "(I)Z"⟩, prog_12_method_30_code, 2, (some .boolean), 8, [])
abbrev mModel_w : Nat := 157
def gm157 : gM := (⟨"RepairBarrowsModel", "w", "(II)I"⟩, prog_12_method_9_code, 3, (some .int), 8, [])
abbrev mModel_allParts : Nat := 158
def gm158 : gM := (⟨"RepairBarrowsModel", "allParts", "(I)I"⟩, prog_12_method_31_code, 2, (some .int), 8, [])
abbrev mModel_loads : Nat := 159
def gm159 : gM := (⟨"RepairBarrowsModel", "loads", "(III)I"⟩, prog_12_method_33_code, 4, (some .int), 8, [])
abbrev mModel_setBarrow : Nat := 160
def gm160 : gM := (⟨"RepairBarrowsModel", "setBarrow", "(III)V"⟩, prog_12_method_10_code, 4, none, 8, [])
abbrev mModel_borrow : Nat := 161
def gm161 : gM := (⟨"RepairBarrowsModel", "borrow", "(II)I"⟩, prog_12_method_38_code, 4, (some .int), 8, [])
abbrev mModel_cannotHand : Nat := 162
def gm162 : gM := (⟨"RepairBarrowsModel", "cannotHand", "(III)I"⟩, prog_12_method_36_code, 4, (some .int), 8, [])
abbrev mModel_hands : Nat := 163
def gm163 : gM := (⟨"RepairBarrowsModel", "hands", "(III)I"⟩, prog_12_method_37_code, 4, (some .int), 8, [])
abbrev mModel_toolsIn : Nat := 164
def gm164 : gM := (⟨"RepairBarrowsModel", "toolsIn", "(I)I"⟩, prog_12_method_35_code, 4, (some .int), 8, [])
abbrev mModel_giveBack : Nat := 165
def gm165 : gM := (⟨"RepairBarrowsModel", "giveBack", "(II)I"⟩, prog_12_method_39_code, 4, (some .int), 8, [])
abbrev mModel_repair : Nat := 166
def gm166 : gM := (⟨"RepairBarrowsModel", "repair", "(II)I"⟩, prog_12_method_47_code, 4, (some .int), 8, [])
abbrev mModel_cannotRepair : Nat := 167
def gm167 : gM := (⟨"RepairBarrowsModel", "cannotRepair", "(II)I"⟩, prog_12_method_45_code, 3, (some .int), 8, [])
abbrev mModel_hasTool : Nat := 168
def gm168 : gM := (⟨"RepairBarrowsModel", "hasTool", "(II)Z"⟩, prog_12_method_43_code, 3, (some .boolean), 8, [])
abbrev mModel_hasPart : Nat := 169
def gm169 : gM := (⟨"RepairBarrowsModel", "hasPart", "(II)Z"⟩, prog_12_method_44_code, 3, (some .boolean), 8, [])
abbrev mModel_repairs : Nat := 170
def gm170 : gM := (⟨"RepairBarrowsModel", "repairs", "(II)I"⟩, prog_12_method_46_code, 7, (some .int), 8, [])
abbrev mModel_finishOf : Nat := 171
def gm171 : gM := (⟨"RepairBarrowsModel", "finishOf", "(II)I"⟩, prog_12_method_42_code, 3, (some .int), 8, [])
abbrev mModel_far : Nat := 172
def gm172 : gM := (⟨"RepairBarrowsModel", "far", "(II)I"⟩, prog_12_method_41_code, 3, (some .int), 8, [])
abbrev mModel_apart : Nat := 173
def gm173 : gM := (⟨"RepairBarrowsModel", "apart", "(II)I"⟩, prog_12_method_40_code, 2, (some .int), 8, [])
abbrev mModel_goHome : Nat := 174
def gm174 : gM := (⟨"RepairBarrowsModel", "goHome", "(I)I"⟩, prog_12_method_49_code, 2, (some .int), 8, [])
abbrev mModel_drivesHome : Nat := 175
def gm175 : gM := (⟨"RepairBarrowsModel", "drivesHome", "(I)I"⟩, prog_12_method_48_code, 2, (some .int), 8, [])
abbrev mModel_rest : Nat := 176
def gm176 : gM := (⟨"RepairBarrowsModel", "rest", "(II)I"⟩, prog_12_method_52_code, 4, (some .int), 8, [])
abbrev mModel_cannotRest : Nat := 177
def gm177 : gM := (⟨"RepairBarrowsModel", "cannotRest", "(II)I"⟩, prog_12_method_51_code, 2, (some .int), 8, [])
abbrev mModel_rests : Nat := 178
def gm178 : gM := (⟨"RepairBarrowsModel", "rests", "(II)I"⟩, prog_12_method_50_code, 3, (some .int), 8, [])
abbrev mModel_jobs : Nat := 179
def gm179 : gM := (⟨"RepairBarrowsModel", "jobs", "()I"⟩, prog_12_method_55_code, 1, (some .int), 8, [])
abbrev mModel_plain : Nat := 180
def gm180 : gM := (⟨"RepairBarrowsModel", "plain", "(I)I"⟩, prog_12_method_53_code, 2, (some .int), 8, [])
abbrev mModel_isOpen : Nat := 181
def gm181 : gM := (⟨"RepairBarrowsModel", "isOpen", "(I)Z"⟩, prog_12_method_56_code, 2, (some .boolean), 8, [])
abbrev mModel_kind : Nat := 182
def gm182 : gM := (⟨"RepairBarrowsModel", "kind", "(I)C"⟩, prog_12_method_58_code, 3, (some .char), 8, [])
abbrev mModel_ofJob : Nat := 183
def gm183 : gM := (⟨"RepairBarrowsModel", "ofJob", "(II)I"⟩, prog_12_method_57_code, 3, (some .int), 8, [])
abbrev mModel_checked : Nat := 184
def gm184 : gM := (⟨"RepairBarrowsModel", "checked", "(Z)I"⟩, prog_12_method_54_code, 2, (some .int), 8, [])
abbrev mModel_tool : Nat := 185
def gm185 : gM := (⟨"RepairBarrowsModel", "tool", "(I)I"⟩, prog_12_method_59_code, 2, (some .int), 8, [])
abbrev mModel_due : Nat := 186
def gm186 : gM := (⟨"RepairBarrowsModel", "due", "(I)I"⟩, prog_12_method_60_code, 2, (some .int), 8, [])
abbrev mModel_barrowOf : Nat := 187
def gm187 : gM := (⟨"RepairBarrowsModel", "barrowOf", "(I)I"⟩, prog_12_method_61_code, 3, (some .int), 8, [])
abbrev mModel_jobByDue : Nat := 188
def gm188 : gM := (⟨"RepairBarrowsModel", "jobByDue", "(I)I"⟩, prog_12_method_62_code, 5, (some .int), 8, [])
abbrev mModel_stock : Nat := 189
def gm189 : gM := (⟨"RepairBarrowsModel", "stock", "(C)I"⟩, prog_12_method_63_code, 2, (some .int), 8, [])
abbrev mModel_parts : Nat := 190
def gm190 : gM := (⟨"RepairBarrowsModel", "parts", "(IC)I"⟩, prog_12_method_64_code, 3, (some .int), 8, [])
abbrev mModel_tools : Nat := 191
def gm191 : gM := (⟨"RepairBarrowsModel", "tools", "(I)I"⟩, prog_12_method_65_code, 2, (some .int), 8, [])
abbrev mModel_holder : Nat := 192
def gm192 : gM := (⟨"RepairBarrowsModel", "holder", "(I)I"⟩, prog_12_method_66_code, 2, (some .int), 8, [])
abbrev mModel_barrowX : Nat := 193
def gm193 : gM := (⟨"RepairBarrowsModel", "barrowX", "(I)I"⟩, prog_12_method_68_code, 2, (some .int), 8, [])
abbrev mModel_ofBarrow : Nat := 194
def gm194 : gM := (⟨"RepairBarrowsModel", "ofBarrow", "(II)I"⟩, prog_12_method_67_code, 3, (some .int), 8, [])
abbrev mModel_barrowY : Nat := 195
def gm195 : gM := (⟨"RepairBarrowsModel", "barrowY", "(I)I"⟩, prog_12_method_69_code, 2, (some .int), 8, [])
abbrev mModel_clock : Nat := 196
def gm196 : gM := (⟨"RepairBarrowsModel", "clock", "(I)I"⟩, prog_12_method_70_code, 2, (some .int), 8, [])
abbrev mModel_isHome : Nat := 197
def gm197 : gM := (⟨"RepairBarrowsModel", "isHome", "(I)Z"⟩, prog_12_method_71_code, 2, (some .boolean), 8, [])
abbrev mModel_assigned : Nat := 198
def gm198 : gM := (⟨"RepairBarrowsModel", "assigned", "(I)I"⟩, prog_12_method_72_code, 2, (some .int), 8, [])
abbrev mModel_canRepair : Nat := 199
def gm199 : gM := (⟨"RepairBarrowsModel", "canRepair", "(II)Z"⟩, prog_12_method_74_code, 3, (some .boolean), 8, [])
abbrev mModel_isPair : Nat := 200
def gm200 : gM := (⟨"RepairBarrowsModel", "isPair", "(II)Z"⟩, prog_12_method_73_code, 3, (some .boolean), 8, [])
abbrev mModel_finish : Nat := 201
def gm201 : gM := (⟨"RepairBarrowsModel", "finish", "(II)I"⟩, prog_12_method_75_code, 3, (some .int), 8, [])
abbrev mModel_fastestBarrow : Nat := 202
def gm202 : gM := (⟨"RepairBarrowsModel", "fastestBarrow", "(I)I"⟩, prog_12_method_76_code, 4, (some .int), 8, [])
abbrev mModel_bestLateness : Nat := 203
def gm203 : gM := (⟨"RepairBarrowsModel", "bestLateness", "(I)I"⟩, prog_12_method_83_code, 2, (some .int), 8, [])
abbrev mModel_bestOf : Nat := 204
def gm204 : gM := (⟨"RepairBarrowsModel", "bestOf", "(I)I"⟩, prog_12_method_82_code, 2, (some .int), 8, [])
abbrev mModel_plans : Nat := 205
def gm205 : gM := (⟨"RepairBarrowsModel", "plans", "(I)V"⟩, prog_12_method_81_code, 3, none, 8, [])
abbrev mModel_lateness : Nat := 206
def gm206 : gM := (⟨"RepairBarrowsModel", "lateness", "(I)I"⟩, prog_12_method_77_code, 8, (some .int), 8, [])
abbrev mModel_keeps : Nat := 207
def gm207 : gM := (⟨"RepairBarrowsModel", "keeps", "(I)V"⟩, prog_12_method_80_code, 3, none, 8, [])
abbrev mModel_hasNextOrder : Nat := 208
def gm208 : gM := (⟨"RepairBarrowsModel", "hasNextOrder", "()Z"⟩, prog_12_method_79_code, 5, (some .boolean), 8, [])
abbrev mModel_swap : Nat := 209
def gm209 : gM := (⟨"RepairBarrowsModel", "swap", "(II)V"⟩, prog_12_method_78_code, 4, none, 8, [])
abbrev mModel_bestLatenessByOrders : Nat := 210
def gm210 : gM := (⟨"RepairBarrowsModel", "bestLatenessByOrders", "(I)I"⟩, prog_12_method_84_code, 2, (some .int), 8, [])
abbrev mModel_planned : Nat := 211
def gm211 : gM := (⟨"RepairBarrowsModel", "planned", "(II)I"⟩, prog_12_method_85_code, 3, (some .int), 8, [])
abbrev mModel_earnings : Nat := 212
def gm212 : gM := (⟨"RepairBarrowsModel", "earnings", "(I)I"⟩, prog_12_method_86_code, 2, (some .int), 8, [])
abbrev mModel_totalEarnings : Nat := 213
def gm213 : gM := (⟨"RepairBarrowsModel", "totalEarnings", "()J"⟩, prog_12_method_87_code, 1, (some .long), 8, [])
abbrev mModel_totalEarningsByHours : Nat := 214
def gm214 : gM := (⟨"RepairBarrowsModel", "totalEarningsByHours", "()J"⟩, prog_12_method_88_code, 1, (some .long), 8, [])
abbrev mModel_repaired : Nat := 215
def gm215 : gM := (⟨"RepairBarrowsModel", "repaired", "()I"⟩, prog_12_method_89_code, 1, (some .int), 8, [])
abbrev mModel_meanLateness : Nat := 216
def gm216 : gM := (⟨"RepairBarrowsModel", "meanLateness", "()D"⟩, prog_12_method_90_code, 1, (some .double), 8, [])
abbrev mModel_borrowedShare : Nat := 217
def gm217 : gM := (⟨"RepairBarrowsModel", "borrowedShare", "()F"⟩, prog_12_method_91_code, 1, (some .float), 8, [])
abbrev mModel_barrowByEarnings : Nat := 218
def gm218 : gM := (⟨"RepairBarrowsModel", "barrowByEarnings", "(I)I"⟩, prog_12_method_93_code, 5, (some .int), 8, [])
abbrev mModel_isAhead : Nat := 219
def gm219 : gM := (⟨"RepairBarrowsModel", "isAhead", "(II)Z"⟩, prog_12_method_92_code, 3, (some .boolean), 8, [])
abbrev mModel_isConsistent : Nat := 220
def gm220 : gM := (⟨"RepairBarrowsModel", "isConsistent", "()Z"⟩, prog_12_method_94_code, 1, (some .boolean), 8, [])
abbrev mModel_writeBarrow : Nat := 221
def gm221 : gM := (⟨"RepairBarrowsModel", "writeBarrow", "(I)I"⟩, prog_12_method_97_code, 3, (some .int), 8, [])
abbrev mModel_writeNumber : Nat := 222
def gm222 : gM := (⟨"RepairBarrowsModel", "writeNumber", "(I)V"⟩, prog_12_method_96_code, 3, none, 8, [])
abbrev mModel_write : Nat := 223
def gm223 : gM := (⟨"RepairBarrowsModel", "write", "(I)V"⟩, prog_12_method_95_code, 2, none, 8, [])
abbrev mModel_writePlan : Nat := 224
def gm224 : gM := (⟨"RepairBarrowsModel", "writePlan", "(I)I"⟩, prog_12_method_98_code, 7, (some .int), 8, [])
abbrev mModel_charAt : Nat := 225
def gm225 : gM := (⟨"RepairBarrowsModel", "charAt", "(I)C"⟩, prog_12_method_99_code, 2, (some .char), 8, [])
abbrev mModel_type : Nat := 226
def gm226 : gM := (⟨"RepairBarrowsModel", "type", "(C)I"⟩, prog_12_method_100_code, 2, (some .int), 8, [])
abbrev mModel_run : Nat := 227
def gm227 : gM := (⟨"RepairBarrowsModel", "run", "()I"⟩, prog_12_method_114_code, 2, (some .int), 8, [])
abbrev mModel_parse : Nat := 228
def gm228 : gM := (⟨"RepairBarrowsModel", "parse", "()V"⟩, prog_12_method_112_code, 1, none, 8, [])
abbrev mModel_command : Nat := 229
def gm229 : gM := (⟨"RepairBarrowsModel", "command", "()V"⟩, prog_12_method_111_code, 2, none, 8, [])
abbrev mModel_word : Nat := 230
def gm230 : gM := (⟨"RepairBarrowsModel", "word", "()I"⟩, prog_12_method_107_code, 4, (some .int), 8, [])
abbrev mModel_spelled : Nat := 231
def gm231 : gM := (⟨"RepairBarrowsModel", "spelled", "(II)I"⟩, prog_12_method_106_code, 2, (some .int), 8, [])
abbrev mModel_pick : Nat := 232
def gm232 : gM := (⟨"RepairBarrowsModel", "pick", "(IIIIIII)I"⟩, prog_12_method_105_code, 7, (some .int), 8, [])
abbrev mModel_expect : Nat := 233
def gm233 : gM := (⟨"RepairBarrowsModel", "expect", "(I)V"⟩, prog_12_method_102_code, 2, none, 8, [])
abbrev mModel_mark : Nat := 234
def gm234 : gM := (⟨"RepairBarrowsModel", "mark", "()I"⟩, prog_12_method_101_code, 1, (some .int), 8, [])
abbrev mModel_readsJob : Nat := 235
def gm235 : gM := (⟨"RepairBarrowsModel", "readsJob", "()V"⟩, prog_12_method_109_code, 1, none, 8, [])
abbrev mModel_number : Nat := 236
def gm236 : gM := (⟨"RepairBarrowsModel", "number", "(I)I"⟩, prog_12_method_103_code, 4, (some .int), 8, [])
abbrev mModel_put : Nat := 237
def gm237 : gM := (⟨"RepairBarrowsModel", "put", "(II)V"⟩, prog_12_method_108_code, 3, none, 8, [])
abbrev mModel_kindMark : Nat := 238
def gm238 : gM := (⟨"RepairBarrowsModel", "kindMark", "()I"⟩, prog_12_method_104_code, 2, (some .int), 8, [])
abbrev mModel_readsOther : Nat := 239
def gm239 : gM := (⟨"RepairBarrowsModel", "readsOther", "(I)V"⟩, prog_12_method_110_code, 2, none, 8, [])
abbrev mModel_cannot : Nat := 240
def gm240 : gM := (⟨"RepairBarrowsModel", "cannot", "(I)Z"⟩, prog_12_method_113_code, 6, (some .boolean), 8, [])
abbrev mModel_errorPosition : Nat := 241
def gm241 : gM := (⟨"RepairBarrowsModel", "errorPosition", "()I"⟩, prog_12_method_116_code, 1, (some .int), 8, [])
abbrev mModel_present : Nat := 242
def gm242 : gM := (⟨"RepairBarrowsModel", "present", "(I)I"⟩, prog_12_method_115_code, 2, (some .int), 8, [])
abbrev mModel_failedCommand : Nat := 243
def gm243 : gM := (⟨"RepairBarrowsModel", "failedCommand", "()I"⟩, prog_12_method_117_code, 1, (some .int), 8, [])
abbrev mModel_undo : Nat := 244
def gm244 : gM := (⟨"RepairBarrowsModel", "undo", "()I"⟩, prog_12_method_118_code, 1, (some .int), 8, [])
abbrev mModel_save : Nat := 245
def gm245 : gM := (⟨"RepairBarrowsModel", "save", "()I"⟩, prog_12_method_119_code, 1, (some .int), 8, [])
abbrev mModel_restore : Nat := 246
def gm246 : gM := (⟨"RepairBarrowsModel", "restore", "()I"⟩, prog_12_method_120_code, 1, (some .int), 8, [])
abbrev mLaw_addJob : Nat := 247
def gm247 : gM := (⟨"RepairBarrowsLaw", "addJob", "(LRepairBarrows;IICIII[J)I"⟩, method_3_code, 9, (some .int), 9, [(0, 18, 21, 13, "java/lang/IllegalArgumentException"), (0, 18, 25, 15, "java/lang/IllegalStateException")])
abbrev mLaw_cancelJob : Nat := 248
def gm248 : gM := (⟨"RepairBarrowsLaw", "cancelJob", "(LRepairBarrows;I[J)I"⟩, method_4_code, 4, (some .int), 9, [(0, 9, 12, 21, "java/util/NoSuchElementException")])
abbrev mLaw_assign : Nat := 249
def gm249 : gM := (⟨"RepairBarrowsLaw", "assign", "(LRepairBarrows;II[J)I"⟩, method_5_code, 5, (some .int), 9, [(0, 10, 13, 21, "java/util/NoSuchElementException"), (0, 10, 17, 27, "java/lang/IndexOutOfBoundsException"), (0, 10, 21, 15, "java/lang/IllegalStateException")])
abbrev mLaw_unassign : Nat := 250
def gm250 : gM := (⟨"RepairBarrowsLaw", "unassign", "(LRepairBarrows;I[J)I"⟩, method_6_code, 4, (some .int), 9, [(0, 9, 12, 21, "java/util/NoSuchElementException"), (0, 9, 15, 15, "java/lang/IllegalStateException")])
abbrev mLaw_addStock : Nat := 251
def gm251 : gM := (⟨"RepairBarrowsLaw", "addStock", "(LRepairBarrows;CI[J)I"⟩, method_7_code, 5, (some .int), 9, [(0, 10, 13, 13, "java/lang/IllegalArgumentException"), (0, 10, 17, 15, "java/lang/IllegalStateException")])
abbrev mLaw_load : Nat := 252
def gm252 : gM := (⟨"RepairBarrowsLaw", "load", "(LRepairBarrows;ICI[J)I"⟩, method_8_code, 6, (some .int), 9, [(0, 12, 15, 27, "java/lang/IndexOutOfBoundsException"), (0, 12, 19, 13, "java/lang/IllegalArgumentException"), (0, 12, 23, 15, "java/lang/IllegalStateException"), (0, 12, 27, 40, "java/lang/UnsupportedOperationException")])
abbrev mLaw_borrow : Nat := 253
def gm253 : gM := (⟨"RepairBarrowsLaw", "borrow", "(LRepairBarrows;II[J)I"⟩, method_9_code, 5, (some .int), 9, [(0, 10, 13, 27, "java/lang/IndexOutOfBoundsException"), (0, 10, 17, 15, "java/lang/IllegalStateException")])
abbrev mLaw_giveBack : Nat := 254
def gm254 : gM := (⟨"RepairBarrowsLaw", "giveBack", "(LRepairBarrows;II[J)I"⟩, method_10_code, 5, (some .int), 9, [(0, 10, 13, 27, "java/lang/IndexOutOfBoundsException"), (0, 10, 17, 15, "java/lang/IllegalStateException")])
abbrev mLaw_repair : Nat := 255
def gm255 : gM := (⟨"RepairBarrowsLaw", "repair", "(LRepairBarrows;II[J)I"⟩, method_11_code, 5, (some .int), 9, [(0, 10, 13, 27, "java/lang/IndexOutOfBoundsException"), (0, 10, 17, 21, "java/util/NoSuchElementException"), (0, 10, 21, 15, "java/lang/IllegalStateException"), (0, 10, 25, 40, "java/lang/UnsupportedOperationException")])
abbrev mLaw_goHome : Nat := 256
def gm256 : gM := (⟨"RepairBarrowsLaw", "goHome", "(LRepairBarrows;I[J)I"⟩, method_12_code, 4, (some .int), 9, [(0, 9, 12, 27, "java/lang/IndexOutOfBoundsException")])
abbrev mLaw_rest : Nat := 257
def gm257 : gM := (⟨"RepairBarrowsLaw", "rest", "(LRepairBarrows;II[J)I"⟩, method_13_code, 5, (some .int), 9, [(0, 10, 13, 27, "java/lang/IndexOutOfBoundsException"), (0, 10, 17, 13, "java/lang/IllegalArgumentException")])
abbrev mLaw_kind : Nat := 258
def gm258 : gM := (⟨"RepairBarrowsLaw", "kind", "(LRepairBarrows;I[J)I"⟩, method_14_code, 4, (some .int), 9, [(0, 9, 12, 21, "java/util/NoSuchElementException")])
abbrev mLaw_tool : Nat := 259
def gm259 : gM := (⟨"RepairBarrowsLaw", "tool", "(LRepairBarrows;I[J)I"⟩, method_15_code, 4, (some .int), 9, [(0, 9, 12, 21, "java/util/NoSuchElementException")])
abbrev mLaw_due : Nat := 260
def gm260 : gM := (⟨"RepairBarrowsLaw", "due", "(LRepairBarrows;I[J)I"⟩, method_16_code, 4, (some .int), 9, [(0, 9, 12, 21, "java/util/NoSuchElementException")])
abbrev mLaw_barrowOf : Nat := 261
def gm261 : gM := (⟨"RepairBarrowsLaw", "barrowOf", "(LRepairBarrows;I[J)I"⟩, method_17_code, 4, (some .int), 9, [(0, 9, 12, 21, "java/util/NoSuchElementException")])
abbrev mLaw_jobByDue : Nat := 262
def gm262 : gM := (⟨"RepairBarrowsLaw", "jobByDue", "(LRepairBarrows;I[J)I"⟩, method_18_code, 4, (some .int), 9, [(0, 9, 12, 21, "java/util/NoSuchElementException")])
abbrev mLaw_stock : Nat := 263
def gm263 : gM := (⟨"RepairBarrowsLaw", "stock", "(LRepairBarrows;C[J)I"⟩, method_19_code, 4, (some .int), 9, [(0, 9, 12, 13, "java/lang/IllegalArgumentException")])
abbrev mLaw_parts : Nat := 264
def gm264 : gM := (⟨"RepairBarrowsLaw", "parts", "(LRepairBarrows;IC[J)I"⟩, method_20_code, 5, (some .int), 9, [(0, 10, 13, 27, "java/lang/IndexOutOfBoundsException"), (0, 10, 17, 13, "java/lang/IllegalArgumentException")])
abbrev mLaw_tools : Nat := 265
def gm265 : gM := (⟨"RepairBarrowsLaw", "tools", "(LRepairBarrows;I[J)I"⟩, method_21_code, 4, (some .int), 9, [(0, 9, 12, 27, "java/lang/IndexOutOfBoundsException")])
abbrev mLaw_holder : Nat := 266
def gm266 : gM := (⟨"RepairBarrowsLaw", "holder", "(LRepairBarrows;I[J)I"⟩, method_22_code, 4, (some .int), 9, [(0, 9, 12, 27, "java/lang/IndexOutOfBoundsException"), (0, 9, 15, 21, "java/util/NoSuchElementException")])
abbrev mLaw_barrowX : Nat := 267
def gm267 : gM := (⟨"RepairBarrowsLaw", "barrowX", "(LRepairBarrows;I[J)I"⟩, method_23_code, 4, (some .int), 9, [(0, 9, 12, 27, "java/lang/IndexOutOfBoundsException")])
abbrev mLaw_barrowY : Nat := 268
def gm268 : gM := (⟨"RepairBarrowsLaw", "barrowY", "(LRepairBarrows;I[J)I"⟩, method_24_code, 4, (some .int), 9, [(0, 9, 12, 27, "java/lang/IndexOutOfBoundsException")])
abbrev mLaw_clock : Nat := 269
def gm269 : gM := (⟨"RepairBarrowsLaw", "clock", "(LRepairBarrows;I[J)I"⟩, method_25_code, 4, (some .int), 9, [(0, 9, 12, 27, "java/lang/IndexOutOfBoundsException")])
abbrev mLaw_isHome : Nat := 270
def gm270 : gM := (⟨"RepairBarrowsLaw", "isHome", "(LRepairBarrows;I[J)I"⟩, method_26_code, 4, (some .int), 9, [(0, 16, 19, 27, "java/lang/IndexOutOfBoundsException")])
abbrev mLaw_assigned : Nat := 271
def gm271 : gM := (⟨"RepairBarrowsLaw", "assigned", "(LRepairBarrows;I[J)I"⟩, method_27_code, 4, (some .int), 9, [(0, 9, 12, 27, "java/lang/IndexOutOfBoundsException")])
abbrev mLaw_canRepair : Nat := 272
def gm272 : gM := (⟨"RepairBarrowsLaw", "canRepair", "(LRepairBarrows;II[J)I"⟩, method_28_code, 5, (some .int), 9, [(0, 17, 20, 27, "java/lang/IndexOutOfBoundsException"), (0, 17, 24, 21, "java/util/NoSuchElementException")])
abbrev mLaw_finish : Nat := 273
def gm273 : gM := (⟨"RepairBarrowsLaw", "finish", "(LRepairBarrows;II[J)I"⟩, method_29_code, 5, (some .int), 9, [(0, 10, 13, 27, "java/lang/IndexOutOfBoundsException"), (0, 10, 17, 21, "java/util/NoSuchElementException")])
abbrev mLaw_fastestBarrow : Nat := 274
def gm274 : gM := (⟨"RepairBarrowsLaw", "fastestBarrow", "(LRepairBarrows;I[J)I"⟩, method_30_code, 4, (some .int), 9, [(0, 9, 12, 21, "java/util/NoSuchElementException")])
abbrev mLaw_bestLateness : Nat := 275
def gm275 : gM := (⟨"RepairBarrowsLaw", "bestLateness", "(LRepairBarrows;I[J)I"⟩, method_31_code, 4, (some .int), 9, [(0, 9, 12, 27, "java/lang/IndexOutOfBoundsException")])
abbrev mLaw_bestLatenessByOrders : Nat := 276
def gm276 : gM := (⟨"RepairBarrowsLaw", "bestLatenessByOrders", "(LRepairBarrows;I[J)I"⟩, method_32_code, 4, (some .int), 9, [(0, 9, 12, 27, "java/lang/IndexOutOfBoundsException")])
abbrev mLaw_planned : Nat := 277
def gm277 : gM := (⟨"RepairBarrowsLaw", "planned", "(LRepairBarrows;II[J)I"⟩, method_33_code, 5, (some .int), 9, [(0, 10, 13, 27, "java/lang/IndexOutOfBoundsException"), (0, 10, 17, 21, "java/util/NoSuchElementException")])
abbrev mLaw_earnings : Nat := 278
def gm278 : gM := (⟨"RepairBarrowsLaw", "earnings", "(LRepairBarrows;I[J)I"⟩, method_34_code, 4, (some .int), 9, [(0, 9, 12, 27, "java/lang/IndexOutOfBoundsException")])
abbrev mLaw_meanLateness : Nat := 279
def gm279 : gM := (⟨"RepairBarrowsLaw", "meanLateness", "(LRepairBarrows;[D)I"⟩, method_35_code, 3, (some .int), 9, [(0, 7, 10, 129, "java/lang/ArithmeticException")])
abbrev mLaw_barrowByEarnings : Nat := 280
def gm280 : gM := (⟨"RepairBarrowsLaw", "barrowByEarnings", "(LRepairBarrows;I[J)I"⟩, method_36_code, 4, (some .int), 9, [(0, 9, 12, 21, "java/util/NoSuchElementException")])
abbrev mLaw_writeBarrow : Nat := 281
def gm281 : gM := (⟨"RepairBarrowsLaw", "writeBarrow", "(LRepairBarrows;I[J)I"⟩, method_37_code, 4, (some .int), 9, [(0, 9, 12, 27, "java/lang/IndexOutOfBoundsException")])
abbrev mLaw_writePlan : Nat := 282
def gm282 : gM := (⟨"RepairBarrowsLaw", "writePlan", "(LRepairBarrows;I[J)I"⟩, method_38_code, 4, (some .int), 9, [(0, 9, 12, 27, "java/lang/IndexOutOfBoundsException")])
abbrev mLaw_charAt : Nat := 283
def gm283 : gM := (⟨"RepairBarrowsLaw", "charAt", "(LRepairBarrows;I[J)I"⟩, method_39_code, 4, (some .int), 9, [(0, 9, 12, 27, "java/lang/IndexOutOfBoundsException")])
abbrev mLaw_type : Nat := 284
def gm284 : gM := (⟨"RepairBarrowsLaw", "type", "(LRepairBarrows;C[J)I"⟩, method_40_code, 4, (some .int), 9, [(0, 9, 12, 15, "java/lang/IllegalStateException")])
abbrev mLaw_run : Nat := 285
def gm285 : gM := (⟨"RepairBarrowsLaw", "run", "(LRepairBarrows;[J)I"⟩, method_41_code, 3, (some .int), 9, [(0, 8, 11, 13, "java/lang/IllegalArgumentException"), (0, 8, 14, 40, "java/lang/UnsupportedOperationException")])
abbrev mLaw_errorPosition : Nat := 286
def gm286 : gM := (⟨"RepairBarrowsLaw", "errorPosition", "(LRepairBarrows;[J)I"⟩, method_42_code, 3, (some .int), 9, [(0, 8, 11, 21, "java/util/NoSuchElementException")])
abbrev mLaw_failedCommand : Nat := 287
def gm287 : gM := (⟨"RepairBarrowsLaw", "failedCommand", "(LRepairBarrows;[J)I"⟩, method_43_code, 3, (some .int), 9, [(0, 8, 11, 21, "java/util/NoSuchElementException")])
abbrev mLaw_undo : Nat := 288
def gm288 : gM := (⟨"RepairBarrowsLaw", "undo", "(LRepairBarrows;[J)I"⟩, method_44_code, 3, (some .int), 9, [(0, 8, 11, 15, "java/lang/IllegalStateException")])
abbrev mLaw_restore : Nat := 289
def gm289 : gM := (⟨"RepairBarrowsLaw", "restore", "(LRepairBarrows;[J)I"⟩, method_45_code, 3, (some .int), 9, [(0, 8, 11, 15, "java/lang/IllegalStateException")])
abbrev mLaw_law : Nat := 290
def gm290 : gM := (⟨"RepairBarrowsLaw", "law", "([I)Z"⟩, code, 10, (some .boolean), 9, [])
abbrev mASB_init : Nat := 291
def gm291 : gM := (⟨"java/lang/AbstractStringBuilder", "<init>", "(I)V"⟩, prog_14_method_2_code, 2, none, 10, [])
abbrev mASB_setLength : Nat := 292
def gm292 : gM := (⟨"java/lang/AbstractStringBuilder", "setLength", "(I)V"⟩, prog_14_method_13_code, 2, none, 10, [])
abbrev mASB_append : Nat := 293
def gm293 : gM := (⟨"java/lang/AbstractStringBuilder", "append", "(Ljava/lang/String;)Ljava/lang/AbstractStringBuilder;"⟩, prog_14_method_22_code, 3, (some (.object "java/lang/AbstractStringBuilder")), 10, [])
abbrev mASB_ensureCapacityInternal : Nat := 294
def gm294 : gM := (⟨"java/lang/AbstractStringBuilder", "ensureCapacityInternal", "(I)V"⟩, prog_14_method_9_code, 3, none, 10, [])
abbrev mASB_newCapacity : Nat := 295
def gm295 : gM := (⟨"java/lang/AbstractStringBuilder", "newCapacity", "(I)I"⟩, prog_14_method_10_code, 6, (some .int), 10, [])
abbrev mASB_isLatin1 : Nat := 296
def gm296 : gM := (⟨"java/lang/AbstractStringBuilder", "isLatin1", "()Z"⟩, prog_14_method_68_code, 1, (some .boolean), 10, [])
abbrev mASB_putStringAt : Nat := 297
def gm297 : gM := (⟨"java/lang/AbstractStringBuilder", "putStringAt", "(ILjava/lang/String;)V"⟩, prog_14_method_73_code, 3, none, 10, [])
abbrev mASB_inflateIfNeededFor : Nat := 298
def gm298 : gM := (⟨"java/lang/AbstractStringBuilder", "inflateIfNeededFor", "(Ljava/lang/String;)V"⟩, prog_14_method_71_code, 2, none, 10, [])
abbrev mASB_append_1 : Nat := 299
def gm299 : gM := (⟨"java/lang/AbstractStringBuilder", "append", "(I)Ljava/lang/AbstractStringBuilder;"⟩, prog_14_method_32_code, 4, (some (.object "java/lang/AbstractStringBuilder")), 10, [])
abbrev mASB_length : Nat := 300
def gm300 : gM := (⟨"java/lang/AbstractStringBuilder", "length", "()I"⟩, prog_14_method_6_code, 1, (some .int), 10, [])
abbrev mASB_append_2 : Nat := 301
def gm301 : gM := (⟨"java/lang/AbstractStringBuilder", "append", "(C)Ljava/lang/AbstractStringBuilder;"⟩, prog_14_method_31_code, 2, (some (.object "java/lang/AbstractStringBuilder")), 10, [])
abbrev mASB_charAt : Nat := 302
def gm302 : gM := (⟨"java/lang/AbstractStringBuilder", "charAt", "(I)C"⟩, prog_14_method_14_code, 5, (some .char), 10, [])
abbrev mSB_init : Nat := 303
def gm303 : gM := (⟨"java/lang/StringBuilder", "<init>", "()V"⟩, prog_31_method_1_code, 1, none, 11, [])
abbrev mSB_setLength : Nat := 304
def gm304 : gM := (⟨"java/lang/StringBuilder", "setLength", "(I)V"⟩, prog_31_method_89_code, 2, none, 11, [])
abbrev mSB_append : Nat := 305
def gm305 : gM := (⟨"java/lang/StringBuilder", "append", "(Ljava/lang/String;)Ljava/lang/StringBuilder;"⟩, prog_31_method_7_code, 2, (some (.object "java/lang/StringBuilder")), 11, [])
abbrev mSB_append_1 : Nat := 306
def gm306 : gM := (⟨"java/lang/StringBuilder", "append", "(I)Ljava/lang/StringBuilder;"⟩, prog_31_method_15_code, 2, (some (.object "java/lang/StringBuilder")), 11, [])
abbrev mSB_length : Nat := 307
def gm307 : gM := (⟨"java/lang/StringBuilder", "length", "()I"⟩, prog_31_method_93_code, 1, (some .int), 11, [])
abbrev mSB_append_2 : Nat := 308
def gm308 : gM := (⟨"java/lang/StringBuilder", "append", "(C)Ljava/lang/StringBuilder;"⟩, prog_31_method_14_code, 2, (some (.object "java/lang/StringBuilder")), 11, [])
abbrev mSB_charAt : Nat := 309
def gm309 : gM := (⟨"java/lang/StringBuilder", "charAt", "(I)C"⟩, prog_31_method_88_code, 2, (some .char), 11, [])
abbrev mString_length : Nat := 310
def gm310 : gM := (⟨"java/lang/String", "length", "()I"⟩, prog_30_method_54_code, 1, (some .int), 12, [])
abbrev mString_coder : Nat := 311
def gm311 : gM := (⟨"java/lang/String", "coder", "()B"⟩, prog_30_method_152_code, 1, (some .byte), 12, [])
abbrev mString_getBytes : Nat := 312
def gm312 : gM := (⟨"java/lang/String", "getBytes", "([BIB)V"⟩, prog_30_method_147_code, 4, none, 12, [])
abbrev mString_checkIndex : Nat := 313
def gm313 : gM := (⟨"java/lang/String", "checkIndex", "(II)V"⟩, prog_30_method_155_code, 2, none, 12, [])
abbrev mString_charAt : Nat := 314
def gm314 : gM := (⟨"java/lang/String", "charAt", "(I)C"⟩, prog_30_method_56_code, 2, (some .char), 12, [])
abbrev mString_isLatin1 : Nat := 315
def gm315 : gM := (⟨"java/lang/String", "isLatin1", "()Z"⟩, prog_30_method_154_code, 1, (some .boolean), 12, [])
abbrev mLatin1_canEncode : Nat := 316
def gm316 : gM := (⟨"java/lang/StringLatin1", "canEncode", "(C)Z"⟩, prog_33_method_3_code, 1, (some .boolean), 13, [])
abbrev mLatin1_charAt : Nat := 317
def gm317 : gM := (⟨"java/lang/StringLatin1", "charAt", "([BI)C"⟩, prog_33_method_2_code, 2, (some .char), 13, [])
abbrev mInteger_stringSize : Nat := 318
def gm318 : gM := (⟨"java/lang/Integer", "stringSize", "(I)I"⟩, prog_26_method_13_code, 4, (some .int), 14, [])
abbrev mInteger_getChars : Nat := 319
def gm319 : gM := (⟨"java/lang/Integer", "getChars", "(II[B)I"⟩, prog_26_method_12_code, 7, (some .int), 14, [])
abbrev mEnum_ordinal : Nat := 320
def gm320 : gM := (⟨"java/lang/Enum", "ordinal", "()I"⟩, prog_21_method_2_code, 1, (some .int), 15, [])
abbrev mArrays_copyOf : Nat := 321
def gm321 : gM := (⟨"java/util/Arrays", "copyOf", "([BI)[B"⟩, prog_40_method_121_code, 3, (some (.array .byte)), 16, [])
abbrev mArrSup_newLength : Nat := 322
def gm322 : gM := (⟨"jdk/internal/util/ArraysSupport", "newLength", "(III)I"⟩, prog_42_method_27_code, 4, (some .int), 17, [])
abbrev mPrecond_checkIndex : Nat := 323
def gm323 : gM := (⟨"jdk/internal/util/Preconditions", "checkIndex", "(IILjava/util/function/BiFunction;)I"⟩, prog_43_method_11_code, 3, (some .int), 18, [])
def gMT0 : List gM := [gm0, gm1, gm2, gm3, gm4, gm5, gm6, gm7, gm8, gm9, gm10, gm11, gm12, gm13, gm14, gm15, gm16, gm17, gm18, gm19, gm20, gm21, gm22, gm23, gm24, gm25, gm26, gm27, gm28, gm29, gm30, gm31, gm32, gm33, gm34, gm35, gm36, gm37, gm38, gm39]
def gMT1 : List gM := [gm40, gm41, gm42, gm43, gm44, gm45, gm46, gm47, gm48, gm49, gm50, gm51, gm52, gm53, gm54, gm55, gm56, gm57, gm58, gm59, gm60, gm61, gm62, gm63, gm64, gm65, gm66, gm67, gm68, gm69, gm70, gm71, gm72, gm73, gm74, gm75, gm76, gm77, gm78, gm79]
def gMT2 : List gM := [gm80, gm81, gm82, gm83, gm84, gm85, gm86, gm87, gm88, gm89, gm90, gm91, gm92, gm93, gm94, gm95, gm96, gm97, gm98, gm99, gm100, gm101, gm102, gm103, gm104, gm105, gm106, gm107, gm108, gm109, gm110, gm111, gm112, gm113, gm114, gm115, gm116, gm117, gm118, gm119]
def gMT3 : List gM := [gm120, gm121, gm122, gm123, gm124, gm125, gm126, gm127, gm128, gm129, gm130, gm131, gm132, gm133, gm134, gm135, gm136, gm137, gm138, gm139, gm140, gm141, gm142, gm143, gm144, gm145, gm146, gm147, gm148, gm149, gm150, gm151, gm152, gm153, gm154, gm155, gm156, gm157, gm158, gm159]
def gMT4 : List gM := [gm160, gm161, gm162, gm163, gm164, gm165, gm166, gm167, gm168, gm169, gm170, gm171, gm172, gm173, gm174, gm175, gm176, gm177, gm178, gm179, gm180, gm181, gm182, gm183, gm184, gm185, gm186, gm187, gm188, gm189, gm190, gm191, gm192, gm193, gm194, gm195, gm196, gm197, gm198, gm199]
def gMT5 : List gM := [gm200, gm201, gm202, gm203, gm204, gm205, gm206, gm207, gm208, gm209, gm210, gm211, gm212, gm213, gm214, gm215, gm216, gm217, gm218, gm219, gm220, gm221, gm222, gm223, gm224, gm225, gm226, gm227, gm228, gm229, gm230, gm231, gm232, gm233, gm234, gm235, gm236, gm237, gm238, gm239]
def gMT6 : List gM := [gm240, gm241, gm242, gm243, gm244, gm245, gm246, gm247, gm248, gm249, gm250, gm251, gm252, gm253, gm254, gm255, gm256, gm257, gm258, gm259, gm260, gm261, gm262, gm263, gm264, gm265, gm266, gm267, gm268, gm269, gm270, gm271, gm272, gm273, gm274, gm275, gm276, gm277, gm278, gm279]
def gMT7 : List gM := [gm280, gm281, gm282, gm283, gm284, gm285, gm286, gm287, gm288, gm289, gm290, gm291, gm292, gm293, gm294, gm295, gm296, gm297, gm298, gm299, gm300, gm301, gm302, gm303, gm304, gm305, gm306, gm307, gm308, gm309, gm310, gm311, gm312, gm313, gm314, gm315, gm316, gm317, gm318, gm319]
def gMT8 : List gM := [gm320, gm321, gm322, gm323]
def gMTL : List (List gM) := [gMT0, gMT1, gMT2, gMT3, gMT4, gMT5, gMT6, gMT7, gMT8]
def gMT (i : Nat) : Option gM := (gMTL[i / 40]?).bind (fun l => l[i % 40]?)
theorem gMT_0 : gMT 0 = some gm0 := rfl
theorem gMT_1 : gMT 1 = some gm1 := rfl
theorem gMT_2 : gMT 2 = some gm2 := rfl
theorem gMT_3 : gMT 3 = some gm3 := rfl
theorem gMT_4 : gMT 4 = some gm4 := rfl
theorem gMT_5 : gMT 5 = some gm5 := rfl
theorem gMT_6 : gMT 6 = some gm6 := rfl
theorem gMT_7 : gMT 7 = some gm7 := rfl
theorem gMT_8 : gMT 8 = some gm8 := rfl
theorem gMT_9 : gMT 9 = some gm9 := rfl
theorem gMT_10 : gMT 10 = some gm10 := rfl
theorem gMT_11 : gMT 11 = some gm11 := rfl
theorem gMT_12 : gMT 12 = some gm12 := rfl
theorem gMT_13 : gMT 13 = some gm13 := rfl
theorem gMT_14 : gMT 14 = some gm14 := rfl
theorem gMT_15 : gMT 15 = some gm15 := rfl
theorem gMT_16 : gMT 16 = some gm16 := rfl
theorem gMT_17 : gMT 17 = some gm17 := rfl
theorem gMT_18 : gMT 18 = some gm18 := rfl
theorem gMT_19 : gMT 19 = some gm19 := rfl
theorem gMT_20 : gMT 20 = some gm20 := rfl
theorem gMT_21 : gMT 21 = some gm21 := rfl
theorem gMT_22 : gMT 22 = some gm22 := rfl
theorem gMT_23 : gMT 23 = some gm23 := rfl
theorem gMT_24 : gMT 24 = some gm24 := rfl
theorem gMT_25 : gMT 25 = some gm25 := rfl
theorem gMT_26 : gMT 26 = some gm26 := rfl
theorem gMT_27 : gMT 27 = some gm27 := rfl
theorem gMT_28 : gMT 28 = some gm28 := rfl
theorem gMT_29 : gMT 29 = some gm29 := rfl
theorem gMT_30 : gMT 30 = some gm30 := rfl
theorem gMT_31 : gMT 31 = some gm31 := rfl
theorem gMT_32 : gMT 32 = some gm32 := rfl
theorem gMT_33 : gMT 33 = some gm33 := rfl
theorem gMT_34 : gMT 34 = some gm34 := rfl
theorem gMT_35 : gMT 35 = some gm35 := rfl
theorem gMT_36 : gMT 36 = some gm36 := rfl
theorem gMT_37 : gMT 37 = some gm37 := rfl
theorem gMT_38 : gMT 38 = some gm38 := rfl
theorem gMT_39 : gMT 39 = some gm39 := rfl
theorem gMT_40 : gMT 40 = some gm40 := rfl
theorem gMT_41 : gMT 41 = some gm41 := rfl
theorem gMT_42 : gMT 42 = some gm42 := rfl
theorem gMT_43 : gMT 43 = some gm43 := rfl
theorem gMT_44 : gMT 44 = some gm44 := rfl
theorem gMT_45 : gMT 45 = some gm45 := rfl
theorem gMT_46 : gMT 46 = some gm46 := rfl
theorem gMT_47 : gMT 47 = some gm47 := rfl
theorem gMT_48 : gMT 48 = some gm48 := rfl
theorem gMT_49 : gMT 49 = some gm49 := rfl
theorem gMT_50 : gMT 50 = some gm50 := rfl
theorem gMT_51 : gMT 51 = some gm51 := rfl
theorem gMT_52 : gMT 52 = some gm52 := rfl
theorem gMT_53 : gMT 53 = some gm53 := rfl
theorem gMT_54 : gMT 54 = some gm54 := rfl
theorem gMT_55 : gMT 55 = some gm55 := rfl
theorem gMT_56 : gMT 56 = some gm56 := rfl
theorem gMT_57 : gMT 57 = some gm57 := rfl
theorem gMT_58 : gMT 58 = some gm58 := rfl
theorem gMT_59 : gMT 59 = some gm59 := rfl
theorem gMT_60 : gMT 60 = some gm60 := rfl
theorem gMT_61 : gMT 61 = some gm61 := rfl
theorem gMT_62 : gMT 62 = some gm62 := rfl
theorem gMT_63 : gMT 63 = some gm63 := rfl
theorem gMT_64 : gMT 64 = some gm64 := rfl
theorem gMT_65 : gMT 65 = some gm65 := rfl
theorem gMT_66 : gMT 66 = some gm66 := rfl
theorem gMT_67 : gMT 67 = some gm67 := rfl
theorem gMT_68 : gMT 68 = some gm68 := rfl
theorem gMT_69 : gMT 69 = some gm69 := rfl
theorem gMT_70 : gMT 70 = some gm70 := rfl
theorem gMT_71 : gMT 71 = some gm71 := rfl
theorem gMT_72 : gMT 72 = some gm72 := rfl
theorem gMT_73 : gMT 73 = some gm73 := rfl
theorem gMT_74 : gMT 74 = some gm74 := rfl
theorem gMT_75 : gMT 75 = some gm75 := rfl
theorem gMT_76 : gMT 76 = some gm76 := rfl
theorem gMT_77 : gMT 77 = some gm77 := rfl
theorem gMT_78 : gMT 78 = some gm78 := rfl
theorem gMT_79 : gMT 79 = some gm79 := rfl
theorem gMT_80 : gMT 80 = some gm80 := rfl
theorem gMT_81 : gMT 81 = some gm81 := rfl
theorem gMT_82 : gMT 82 = some gm82 := rfl
theorem gMT_83 : gMT 83 = some gm83 := rfl
theorem gMT_84 : gMT 84 = some gm84 := rfl
theorem gMT_85 : gMT 85 = some gm85 := rfl
theorem gMT_86 : gMT 86 = some gm86 := rfl
theorem gMT_87 : gMT 87 = some gm87 := rfl
theorem gMT_88 : gMT 88 = some gm88 := rfl
theorem gMT_89 : gMT 89 = some gm89 := rfl
theorem gMT_90 : gMT 90 = some gm90 := rfl
theorem gMT_91 : gMT 91 = some gm91 := rfl
theorem gMT_92 : gMT 92 = some gm92 := rfl
theorem gMT_93 : gMT 93 = some gm93 := rfl
theorem gMT_94 : gMT 94 = some gm94 := rfl
theorem gMT_95 : gMT 95 = some gm95 := rfl
theorem gMT_96 : gMT 96 = some gm96 := rfl
theorem gMT_97 : gMT 97 = some gm97 := rfl
theorem gMT_98 : gMT 98 = some gm98 := rfl
theorem gMT_99 : gMT 99 = some gm99 := rfl
theorem gMT_100 : gMT 100 = some gm100 := rfl
theorem gMT_101 : gMT 101 = some gm101 := rfl
theorem gMT_102 : gMT 102 = some gm102 := rfl
theorem gMT_103 : gMT 103 = some gm103 := rfl
theorem gMT_104 : gMT 104 = some gm104 := rfl
theorem gMT_105 : gMT 105 = some gm105 := rfl
theorem gMT_106 : gMT 106 = some gm106 := rfl
theorem gMT_107 : gMT 107 = some gm107 := rfl
theorem gMT_108 : gMT 108 = some gm108 := rfl
theorem gMT_109 : gMT 109 = some gm109 := rfl
theorem gMT_110 : gMT 110 = some gm110 := rfl
theorem gMT_111 : gMT 111 = some gm111 := rfl
theorem gMT_112 : gMT 112 = some gm112 := rfl
theorem gMT_113 : gMT 113 = some gm113 := rfl
theorem gMT_114 : gMT 114 = some gm114 := rfl
theorem gMT_115 : gMT 115 = some gm115 := rfl
theorem gMT_116 : gMT 116 = some gm116 := rfl
theorem gMT_117 : gMT 117 = some gm117 := rfl
theorem gMT_118 : gMT 118 = some gm118 := rfl
theorem gMT_119 : gMT 119 = some gm119 := rfl
theorem gMT_120 : gMT 120 = some gm120 := rfl
theorem gMT_121 : gMT 121 = some gm121 := rfl
theorem gMT_122 : gMT 122 = some gm122 := rfl
theorem gMT_123 : gMT 123 = some gm123 := rfl
theorem gMT_124 : gMT 124 = some gm124 := rfl
theorem gMT_125 : gMT 125 = some gm125 := rfl
theorem gMT_126 : gMT 126 = some gm126 := rfl
theorem gMT_127 : gMT 127 = some gm127 := rfl
theorem gMT_128 : gMT 128 = some gm128 := rfl
theorem gMT_129 : gMT 129 = some gm129 := rfl
theorem gMT_130 : gMT 130 = some gm130 := rfl
theorem gMT_131 : gMT 131 = some gm131 := rfl
theorem gMT_132 : gMT 132 = some gm132 := rfl
theorem gMT_133 : gMT 133 = some gm133 := rfl
theorem gMT_134 : gMT 134 = some gm134 := rfl
theorem gMT_135 : gMT 135 = some gm135 := rfl
theorem gMT_136 : gMT 136 = some gm136 := rfl
theorem gMT_137 : gMT 137 = some gm137 := rfl
theorem gMT_138 : gMT 138 = some gm138 := rfl
theorem gMT_139 : gMT 139 = some gm139 := rfl
theorem gMT_140 : gMT 140 = some gm140 := rfl
theorem gMT_141 : gMT 141 = some gm141 := rfl
theorem gMT_142 : gMT 142 = some gm142 := rfl
theorem gMT_143 : gMT 143 = some gm143 := rfl
theorem gMT_144 : gMT 144 = some gm144 := rfl
theorem gMT_145 : gMT 145 = some gm145 := rfl
theorem gMT_146 : gMT 146 = some gm146 := rfl
theorem gMT_147 : gMT 147 = some gm147 := rfl
theorem gMT_148 : gMT 148 = some gm148 := rfl
theorem gMT_149 : gMT 149 = some gm149 := rfl
theorem gMT_150 : gMT 150 = some gm150 := rfl
theorem gMT_151 : gMT 151 = some gm151 := rfl
theorem gMT_152 : gMT 152 = some gm152 := rfl
theorem gMT_153 : gMT 153 = some gm153 := rfl
theorem gMT_154 : gMT 154 = some gm154 := rfl
theorem gMT_155 : gMT 155 = some gm155 := rfl
theorem gMT_156 : gMT 156 = some gm156 := rfl
theorem gMT_157 : gMT 157 = some gm157 := rfl
theorem gMT_158 : gMT 158 = some gm158 := rfl
theorem gMT_159 : gMT 159 = some gm159 := rfl
theorem gMT_160 : gMT 160 = some gm160 := rfl
theorem gMT_161 : gMT 161 = some gm161 := rfl
theorem gMT_162 : gMT 162 = some gm162 := rfl
theorem gMT_163 : gMT 163 = some gm163 := rfl
theorem gMT_164 : gMT 164 = some gm164 := rfl
theorem gMT_165 : gMT 165 = some gm165 := rfl
theorem gMT_166 : gMT 166 = some gm166 := rfl
theorem gMT_167 : gMT 167 = some gm167 := rfl
theorem gMT_168 : gMT 168 = some gm168 := rfl
theorem gMT_169 : gMT 169 = some gm169 := rfl
theorem gMT_170 : gMT 170 = some gm170 := rfl
theorem gMT_171 : gMT 171 = some gm171 := rfl
theorem gMT_172 : gMT 172 = some gm172 := rfl
theorem gMT_173 : gMT 173 = some gm173 := rfl
theorem gMT_174 : gMT 174 = some gm174 := rfl
theorem gMT_175 : gMT 175 = some gm175 := rfl
theorem gMT_176 : gMT 176 = some gm176 := rfl
theorem gMT_177 : gMT 177 = some gm177 := rfl
theorem gMT_178 : gMT 178 = some gm178 := rfl
theorem gMT_179 : gMT 179 = some gm179 := rfl
theorem gMT_180 : gMT 180 = some gm180 := rfl
theorem gMT_181 : gMT 181 = some gm181 := rfl
theorem gMT_182 : gMT 182 = some gm182 := rfl
theorem gMT_183 : gMT 183 = some gm183 := rfl
theorem gMT_184 : gMT 184 = some gm184 := rfl
theorem gMT_185 : gMT 185 = some gm185 := rfl
theorem gMT_186 : gMT 186 = some gm186 := rfl
theorem gMT_187 : gMT 187 = some gm187 := rfl
theorem gMT_188 : gMT 188 = some gm188 := rfl
theorem gMT_189 : gMT 189 = some gm189 := rfl
theorem gMT_190 : gMT 190 = some gm190 := rfl
theorem gMT_191 : gMT 191 = some gm191 := rfl
theorem gMT_192 : gMT 192 = some gm192 := rfl
theorem gMT_193 : gMT 193 = some gm193 := rfl
theorem gMT_194 : gMT 194 = some gm194 := rfl
theorem gMT_195 : gMT 195 = some gm195 := rfl
theorem gMT_196 : gMT 196 = some gm196 := rfl
theorem gMT_197 : gMT 197 = some gm197 := rfl
theorem gMT_198 : gMT 198 = some gm198 := rfl
theorem gMT_199 : gMT 199 = some gm199 := rfl
theorem gMT_200 : gMT 200 = some gm200 := rfl
theorem gMT_201 : gMT 201 = some gm201 := rfl
theorem gMT_202 : gMT 202 = some gm202 := rfl
theorem gMT_203 : gMT 203 = some gm203 := rfl
theorem gMT_204 : gMT 204 = some gm204 := rfl
theorem gMT_205 : gMT 205 = some gm205 := rfl
theorem gMT_206 : gMT 206 = some gm206 := rfl
theorem gMT_207 : gMT 207 = some gm207 := rfl
theorem gMT_208 : gMT 208 = some gm208 := rfl
theorem gMT_209 : gMT 209 = some gm209 := rfl
theorem gMT_210 : gMT 210 = some gm210 := rfl
theorem gMT_211 : gMT 211 = some gm211 := rfl
theorem gMT_212 : gMT 212 = some gm212 := rfl
theorem gMT_213 : gMT 213 = some gm213 := rfl
theorem gMT_214 : gMT 214 = some gm214 := rfl
theorem gMT_215 : gMT 215 = some gm215 := rfl
theorem gMT_216 : gMT 216 = some gm216 := rfl
theorem gMT_217 : gMT 217 = some gm217 := rfl
theorem gMT_218 : gMT 218 = some gm218 := rfl
theorem gMT_219 : gMT 219 = some gm219 := rfl
theorem gMT_220 : gMT 220 = some gm220 := rfl
theorem gMT_221 : gMT 221 = some gm221 := rfl
theorem gMT_222 : gMT 222 = some gm222 := rfl
theorem gMT_223 : gMT 223 = some gm223 := rfl
theorem gMT_224 : gMT 224 = some gm224 := rfl
theorem gMT_225 : gMT 225 = some gm225 := rfl
theorem gMT_226 : gMT 226 = some gm226 := rfl
theorem gMT_227 : gMT 227 = some gm227 := rfl
theorem gMT_228 : gMT 228 = some gm228 := rfl
theorem gMT_229 : gMT 229 = some gm229 := rfl
theorem gMT_230 : gMT 230 = some gm230 := rfl
theorem gMT_231 : gMT 231 = some gm231 := rfl
theorem gMT_232 : gMT 232 = some gm232 := rfl
theorem gMT_233 : gMT 233 = some gm233 := rfl
theorem gMT_234 : gMT 234 = some gm234 := rfl
theorem gMT_235 : gMT 235 = some gm235 := rfl
theorem gMT_236 : gMT 236 = some gm236 := rfl
theorem gMT_237 : gMT 237 = some gm237 := rfl
theorem gMT_238 : gMT 238 = some gm238 := rfl
theorem gMT_239 : gMT 239 = some gm239 := rfl
theorem gMT_240 : gMT 240 = some gm240 := rfl
theorem gMT_241 : gMT 241 = some gm241 := rfl
theorem gMT_242 : gMT 242 = some gm242 := rfl
theorem gMT_243 : gMT 243 = some gm243 := rfl
theorem gMT_244 : gMT 244 = some gm244 := rfl
theorem gMT_245 : gMT 245 = some gm245 := rfl
theorem gMT_246 : gMT 246 = some gm246 := rfl
theorem gMT_247 : gMT 247 = some gm247 := rfl
theorem gMT_248 : gMT 248 = some gm248 := rfl
theorem gMT_249 : gMT 249 = some gm249 := rfl
theorem gMT_250 : gMT 250 = some gm250 := rfl
theorem gMT_251 : gMT 251 = some gm251 := rfl
theorem gMT_252 : gMT 252 = some gm252 := rfl
theorem gMT_253 : gMT 253 = some gm253 := rfl
theorem gMT_254 : gMT 254 = some gm254 := rfl
theorem gMT_255 : gMT 255 = some gm255 := rfl
theorem gMT_256 : gMT 256 = some gm256 := rfl
theorem gMT_257 : gMT 257 = some gm257 := rfl
theorem gMT_258 : gMT 258 = some gm258 := rfl
theorem gMT_259 : gMT 259 = some gm259 := rfl
theorem gMT_260 : gMT 260 = some gm260 := rfl
theorem gMT_261 : gMT 261 = some gm261 := rfl
theorem gMT_262 : gMT 262 = some gm262 := rfl
theorem gMT_263 : gMT 263 = some gm263 := rfl
theorem gMT_264 : gMT 264 = some gm264 := rfl
theorem gMT_265 : gMT 265 = some gm265 := rfl
theorem gMT_266 : gMT 266 = some gm266 := rfl
theorem gMT_267 : gMT 267 = some gm267 := rfl
theorem gMT_268 : gMT 268 = some gm268 := rfl
theorem gMT_269 : gMT 269 = some gm269 := rfl
theorem gMT_270 : gMT 270 = some gm270 := rfl
theorem gMT_271 : gMT 271 = some gm271 := rfl
theorem gMT_272 : gMT 272 = some gm272 := rfl
theorem gMT_273 : gMT 273 = some gm273 := rfl
theorem gMT_274 : gMT 274 = some gm274 := rfl
theorem gMT_275 : gMT 275 = some gm275 := rfl
theorem gMT_276 : gMT 276 = some gm276 := rfl
theorem gMT_277 : gMT 277 = some gm277 := rfl
theorem gMT_278 : gMT 278 = some gm278 := rfl
theorem gMT_279 : gMT 279 = some gm279 := rfl
theorem gMT_280 : gMT 280 = some gm280 := rfl
theorem gMT_281 : gMT 281 = some gm281 := rfl
theorem gMT_282 : gMT 282 = some gm282 := rfl
theorem gMT_283 : gMT 283 = some gm283 := rfl
theorem gMT_284 : gMT 284 = some gm284 := rfl
theorem gMT_285 : gMT 285 = some gm285 := rfl
theorem gMT_286 : gMT 286 = some gm286 := rfl
theorem gMT_287 : gMT 287 = some gm287 := rfl
theorem gMT_288 : gMT 288 = some gm288 := rfl
theorem gMT_289 : gMT 289 = some gm289 := rfl
theorem gMT_290 : gMT 290 = some gm290 := rfl
theorem gMT_291 : gMT 291 = some gm291 := rfl
theorem gMT_292 : gMT 292 = some gm292 := rfl
theorem gMT_293 : gMT 293 = some gm293 := rfl
theorem gMT_294 : gMT 294 = some gm294 := rfl
theorem gMT_295 : gMT 295 = some gm295 := rfl
theorem gMT_296 : gMT 296 = some gm296 := rfl
theorem gMT_297 : gMT 297 = some gm297 := rfl
theorem gMT_298 : gMT 298 = some gm298 := rfl
theorem gMT_299 : gMT 299 = some gm299 := rfl
theorem gMT_300 : gMT 300 = some gm300 := rfl
theorem gMT_301 : gMT 301 = some gm301 := rfl
theorem gMT_302 : gMT 302 = some gm302 := rfl
theorem gMT_303 : gMT 303 = some gm303 := rfl
theorem gMT_304 : gMT 304 = some gm304 := rfl
theorem gMT_305 : gMT 305 = some gm305 := rfl
theorem gMT_306 : gMT 306 = some gm306 := rfl
theorem gMT_307 : gMT 307 = some gm307 := rfl
theorem gMT_308 : gMT 308 = some gm308 := rfl
theorem gMT_309 : gMT 309 = some gm309 := rfl
theorem gMT_310 : gMT 310 = some gm310 := rfl
theorem gMT_311 : gMT 311 = some gm311 := rfl
theorem gMT_312 : gMT 312 = some gm312 := rfl
theorem gMT_313 : gMT 313 = some gm313 := rfl
theorem gMT_314 : gMT 314 = some gm314 := rfl
theorem gMT_315 : gMT 315 = some gm315 := rfl
theorem gMT_316 : gMT 316 = some gm316 := rfl
theorem gMT_317 : gMT 317 = some gm317 := rfl
theorem gMT_318 : gMT 318 = some gm318 := rfl
theorem gMT_319 : gMT 319 = some gm319 := rfl
theorem gMT_320 : gMT 320 = some gm320 := rfl
theorem gMT_321 : gMT 321 = some gm321 := rfl
theorem gMT_322 : gMT 322 = some gm322 := rfl
theorem gMT_323 : gMT 323 = some gm323 := rfl
def LKf_0 : List (Nat × (Nat × Nat)) := [(9, (0, 4)), (15, (0, 0)), (19, (0, 1)), (22, (0, 2)), (25, (0, 3))]
def LKf_1 : List (Nat × (Nat × Nat)) := [(15, (1, 0)), (20, (1, 1))]
def LKf_2 : List (Nat × (Nat × Nat)) := [(13, (2, 0)), (17, (2, 1)), (21, (2, 2))]
def LKf_3 : List (Nat × (Nat × Nat)) := [(9, (3, 7)), (15, (3, 0)), (18, (3, 1)), (21, (3, 2)), (24, (3, 3)), (27, (3, 4)), (30, (3, 5)), (33, (3, 6))]
def LKf_4 : List (Nat × (Nat × Nat)) := [(11, (4, 0)), (17, (4, 1)), (21, (4, 2)), (25, (4, 3)), (28, (4, 4)), (32, (4, 5)), (36, (4, 6)), (39, (4, 7)), (42, (4, 8)), (54, (6, 3)), (60, (0, 0)), (65, (0, 1)), (68, (0, 2)), (89, (6, 1)), (92, (6, 0)), (93, (3, 7)), (112, (3, 0)), (115, (3, 1)), (116, (3, 2))]
def LKf_5 : List (Nat × (Nat × Nat)) := [(9, (5, 0)), (15, (5, 1)), (19, (5, 2)), (24, (5, 3)), (28, (5, 4)), (44, (11, 1)), (50, (1, 1)), (58, (1, 0))]
def LKf_6 : List (Nat × (Nat × Nat)) := [(11, (6, 0)), (17, (6, 1)), (21, (6, 2)), (26, (6, 3)), (30, (6, 4)), (34, (6, 5)), (37, (6, 6)), (40, (6, 7)), (44, (6, 8)), (72, (3, 0)), (75, (3, 1)), (78, (3, 2)), (81, (3, 3)), (84, (3, 4)), (87, (3, 5)), (90, (3, 6)), (93, (3, 7)), (118, (0, 4)), (138, (0, 2)), (141, (0, 0)), (142, (0, 1)), (147, (0, 3))]
def LKf_7 : List (Nat × (Nat × Nat)) := [(10, (7, 0)), (16, (7, 1)), (19, (7, 2)), (26, (7, 3)), (33, (7, 4)), (40, (7, 5)), (47, (7, 6)), (51, (7, 7)), (55, (7, 8)), (106, (6, 1)), (116, (3, 3)), (125, (3, 4)), (128, (3, 6)), (131, (3, 7)), (137, (6, 0)), (145, (3, 0)), (148, (6, 4)), (159, (0, 4)), (174, (6, 5)), (177, (0, 0)), (180, (0, 1)), (183, (0, 2)), (203, (6, 3)), (214, (4, 8)), (217, (4, 6)), (220, (0, 3)), (225, (6, 7)), (231, (6, 8)), (234, (6, 6)), (274, (4, 7)), (309, (5, 4)), (310, (2, 2)), (320, (5, 3)), (328, (1, 1)), (338, (1, 0))]
def LKf_8 : List (Nat × (Nat × Nat)) := [(7, (8, 0)), (13, (8, 1)), (16, (8, 2)), (19, (8, 3)), (22, (8, 4)), (25, (8, 5)), (28, (8, 6)), (32, (8, 7)), (35, (8, 8)), (38, (8, 9)), (41, (8, 10)), (44, (8, 11)), (47, (8, 12)), (51, (8, 13)), (54, (8, 14)), (57, (8, 15)), (60, (8, 16)), (63, (8, 17)), (66, (8, 18)), (69, (8, 19)), (72, (8, 20)), (75, (8, 21)), (78, (8, 22))]
def LKf_9 : List (Nat × (Nat × Nat)) := []
def LKf_10 : List (Nat × (Nat × Nat)) := [(15, (9, 0)), (22, (9, 1)), (73, (9, 2)), (79, (9, 3))]
def LKf_11 : List (Nat × (Nat × Nat)) := []
def LKf_12 : List (Nat × (Nat × Nat)) := [(9, (10, 0)), (15, (10, 1)), (1048, (9, 2))]
def LKf_13 : List (Nat × (Nat × Nat)) := []
def LKf_14 : List (Nat × (Nat × Nat)) := []
def LKf_15 : List (Nat × (Nat × Nat)) := [(7, (11, 0))]
def LKf_16 : List (Nat × (Nat × Nat)) := []
def LKf_17 : List (Nat × (Nat × Nat)) := []
def LKf_18 : List (Nat × (Nat × Nat)) := []
def LKfT : List (List (Nat × (Nat × Nat))) := [LKf_0, LKf_1, LKf_2, LKf_3, LKf_4, LKf_5, LKf_6, LKf_7, LKf_8, LKf_9, LKf_10, LKf_11, LKf_12, LKf_13, LKf_14, LKf_15, LKf_16, LKf_17, LKf_18]
def LKf (o i : Nat) : Option ((Nat × Nat)) := (LKfT[o]?).bind (fun l => l.lookup i)
/-- method, form (0 virtual, 1 static, 2 constructor, 3 static of a nest mate, 4 constructor of a nest mate, 5 of a class above by the receiver, 6 super), the receiver's class, how many arguments -/
def LKm_0 : List (Nat × (Nat × Nat × Nat × Nat)) := [(34, (76, 3, 0, 1)), (38, (16, 0, 3, 3))]
def LKm_1 : List (Nat × (Nat × Nat × Nat × Nat)) := []
def LKm_2 : List (Nat × (Nat × Nat × Nat × Nat)) := [(24, (41, 2, 0, 0)), (25, (44, 0, 6, 1))]
def LKm_3 : List (Nat × (Nat × Nat × Nat × Nat)) := [(36, (71, 3, 0, 4))]
def LKm_4 : List (Nat × (Nat × Nat × Nat × Nat)) := [(45, (14, 4, 0, 0)), (46, (21, 0, 4, 2)), (50, (70, 3, 0, 1)), (71, (22, 0, 4, 5)), (75, (26, 0, 4, 1)), (79, (27, 0, 4, 0)), (96, (15, 0, 3, 1)), (100, (23, 0, 4, 1)), (104, (16, 0, 3, 3)), (108, (24, 0, 4, 4)), (117, (17, 0, 3, 1)), (127, (28, 0, 4, 2))]
def LKm_5 : List (Nat × (Nat × Nat × Nat × Nat)) := [(31, (7, 4, 0, 0)), (32, (33, 0, 5, 1)), (36, (39, 0, 5, 1)), (54, (34, 0, 5, 2)), (68, (310, 0, 10, 0)), (73, (314, 0, 10, 1)), (77, (35, 0, 5, 1)), (81, (36, 0, 5, 0)), (84, (37, 0, 5, 0)), (87, (38, 0, 5, 0)), (90, (74, 3, 0, 1))]
def LKm_6 : List (Nat × (Nat × Nat × Nat × Nat)) := [(47, (14, 4, 0, 0)), (48, (0, 4, 0, 0)), (49, (15, 0, 3, 1)), (53, (2, 0, 0, 1)), (62, (75, 3, 0, 1)), (66, (76, 3, 0, 1)), (69, (77, 3, 0, 1)), (96, (42, 0, 6, 1)), (100, (47, 0, 6, 1)), (103, (70, 3, 0, 1)), (106, (43, 0, 6, 1)), (110, (3, 0, 0, 0)), (114, (1, 0, 0, 0)), (121, (53, 0, 6, 1)), (124, (56, 0, 6, 2)), (128, (57, 0, 6, 2)), (131, (4, 0, 0, 1)), (135, (17, 0, 3, 1)), (143, (5, 0, 0, 1)), (150, (71, 3, 0, 4)), (154, (18, 0, 3, 1)), (158, (6, 0, 0, 1))]
def LKm_7 : List (Nat × (Nat × Nat × Nat × Nat)) := [(9, (41, 2, 0, 0)), (25, (8, 2, 0, 0)), (32, (19, 2, 0, 0)), (39, (29, 2, 0, 0)), (46, (303, 2, 0, 0)), (58, (9, 0, 2, 1)), (62, (74, 1, 0, 1)), (66, (45, 0, 6, 6)), (70, (78, 0, 7, 1)), (74, (46, 0, 6, 1)), (77, (48, 0, 6, 2)), (81, (49, 0, 6, 1)), (84, (50, 0, 6, 2)), (87, (51, 0, 6, 3)), (91, (52, 0, 6, 2)), (94, (54, 0, 6, 2)), (97, (55, 0, 6, 2)), (100, (58, 0, 6, 1)), (103, (59, 0, 6, 2)), (109, (42, 0, 6, 1)), (113, (90, 0, 7, 1)), (121, (91, 1, 0, 1)), (141, (60, 0, 6, 1)), (152, (97, 1, 0, 1)), (155, (99, 0, 7, 1)), (164, (53, 0, 6, 1)), (167, (77, 1, 0, 1)), (186, (3, 0, 0, 0)), (190, (43, 0, 6, 1)), (193, (56, 0, 6, 2)), (197, (57, 0, 6, 2)), (200, (4, 0, 0, 1)), (207, (20, 0, 4, 2)), (211, (25, 0, 4, 2)), (241, (61, 0, 6, 1)), (244, (1, 0, 0, 0)), (248, (65, 0, 7, 0)), (252, (66, 0, 7, 0)), (255, (304, 0, 9, 1)), (259, (306, 0, 9, 1)), (263, (308, 0, 9, 1)), (268, (305, 0, 9, 1)), (271, (307, 0, 9, 0)), (277, (309, 0, 9, 1)), (280, (30, 0, 5, 0)), (286, (31, 0, 5, 1)), (288, (32, 0, 5, 0)), (291, (40, 0, 5, 0)), (297, (121, 0, 7, 0)), (300, (11, 0, 2, 1)), (306, (10, 0, 2, 0)), (311, (12, 0, 2, 1)), (314, (44, 0, 6, 1)), (317, (13, 0, 2, 0)), (324, (122, 0, 7, 1)), (342, (320, 5, 11, 0)), (347, (70, 1, 0, 1)), (350, (76, 1, 0, 1))]
def LKm_8 : List (Nat × (Nat × Nat × Nat × Nat)) := [(81, (131, 1, 0, 4)), (85, (141, 0, 8, 2)), (89, (133, 1, 0, 3)), (93, (134, 1, 0, 1)), (97, (135, 1, 0, 1)), (100, (130, 0, 8, 0)), (103, (132, 0, 8, 6)), (107, (136, 0, 8, 1)), (111, (137, 0, 8, 6)), (114, (138, 0, 8, 1)), (117, (140, 0, 8, 1)), (120, (142, 0, 8, 1)), (123, (145, 1, 0, 1)), (126, (146, 0, 8, 1)), (129, (144, 0, 8, 2)), (132, (147, 0, 8, 2)), (135, (149, 0, 8, 1)), (138, (150, 0, 8, 1)), (141, (152, 0, 8, 2)), (144, (153, 0, 8, 2)), (147, (157, 0, 8, 2)), (150, (156, 0, 8, 1)), (153, (158, 0, 8, 1)), (156, (160, 0, 8, 3)), (160, (155, 0, 8, 3)), (164, (159, 0, 8, 3)), (167, (164, 0, 8, 1)), (170, (162, 0, 8, 3)), (173, (163, 0, 8, 3)), (176, (173, 1, 0, 2)), (179, (172, 0, 8, 2)), (182, (168, 0, 8, 2)), (186, (169, 0, 8, 2)), (189, (171, 0, 8, 2)), (192, (167, 0, 8, 2)), (195, (170, 0, 8, 2)), (198, (175, 0, 8, 1)), (201, (177, 1, 0, 2)), (204, (178, 0, 8, 2)), (207, (180, 0, 8, 1)), (210, (184, 0, 8, 1)), (214, (183, 0, 8, 2)), (217, (194, 0, 8, 2)), (220, (200, 0, 8, 2)), (223, (209, 0, 8, 2)), (227, (206, 0, 8, 1)), (230, (207, 0, 8, 1)), (234, (208, 0, 8, 0)), (238, (205, 0, 8, 1)), (241, (204, 0, 8, 1)), (245, (219, 0, 8, 2)), (248, (223, 0, 8, 1)), (251, (222, 0, 8, 1)), (254, (234, 0, 8, 0)), (258, (232, 1, 0, 7)), (262, (231, 1, 0, 2)), (265, (236, 0, 8, 1)), (268, (237, 0, 8, 2)), (271, (233, 0, 8, 1)), (274, (238, 0, 8, 0)), (277, (230, 0, 8, 0)), (280, (235, 0, 8, 0)), (283, (239, 0, 8, 1)), (286, (229, 0, 8, 0)), (289, (228, 0, 8, 0)), (292, (240, 0, 8, 1)), (295, (242, 0, 8, 1))]
def LKm_9 : List (Nat × (Nat × Nat × Nat × Nat)) := [(7, (73, 0, 7, 6)), (17, (79, 0, 7, 1)), (23, (80, 0, 7, 2)), (29, (81, 0, 7, 1)), (32, (82, 0, 7, 2)), (36, (83, 0, 7, 3)), (42, (84, 0, 7, 2)), (45, (85, 0, 7, 2)), (48, (86, 0, 7, 2)), (51, (87, 0, 7, 1)), (54, (88, 0, 7, 2)), (57, (89, 0, 7, 1)), (61, (92, 0, 7, 1)), (64, (93, 0, 7, 1)), (67, (94, 0, 7, 1)), (70, (95, 0, 7, 1)), (73, (96, 0, 7, 1)), (77, (98, 0, 7, 2)), (81, (100, 0, 7, 1)), (84, (101, 0, 7, 1)), (87, (102, 0, 7, 1)), (90, (103, 0, 7, 1)), (93, (104, 0, 7, 1)), (96, (105, 0, 7, 1)), (100, (106, 0, 7, 1)), (103, (107, 0, 7, 2)), (107, (108, 0, 7, 2)), (110, (109, 0, 7, 1)), (113, (110, 0, 7, 1)), (116, (111, 0, 7, 1)), (119, (112, 0, 7, 2)), (122, (113, 0, 7, 1)), (125, (114, 0, 7, 0)), (131, (115, 0, 7, 1)), (134, (116, 0, 7, 1)), (137, (117, 0, 7, 1)), (140, (118, 0, 7, 1)), (143, (119, 0, 7, 1)), (146, (120, 0, 7, 0)), (150, (123, 0, 7, 0)), (153, (124, 0, 7, 0)), (156, (125, 0, 7, 0)), (159, (126, 0, 7, 0)), (162, (62, 2, 0, 0)), (165, (127, 2, 0, 0)), (166, (247, 1, 0, 8)), (171, (129, 0, 8, 6)), (172, (128, 0, 8, 0)), (175, (248, 1, 0, 3)), (178, (139, 0, 8, 1)), (179, (249, 1, 0, 4)), (182, (143, 0, 8, 2)), (183, (250, 1, 0, 3)), (185, (148, 0, 8, 1)), (186, (251, 1, 0, 4)), (189, (151, 0, 8, 2)), (190, (252, 1, 0, 5)), (193, (154, 0, 8, 3)), (194, (253, 1, 0, 4)), (196, (161, 0, 8, 2)), (197, (254, 1, 0, 4)), (199, (165, 0, 8, 2)), (200, (255, 1, 0, 4)), (202, (166, 0, 8, 2)), (203, (256, 1, 0, 3)), (205, (174, 0, 8, 1)), (206, (257, 1, 0, 4)), (208, (176, 0, 8, 2)), (209, (63, 0, 7, 0)), (212, (179, 0, 8, 0)), (213, (64, 0, 7, 1)), (216, (181, 0, 8, 1)), (217, (258, 1, 0, 3)), (219, (182, 0, 8, 1)), (220, (259, 1, 0, 3)), (222, (185, 0, 8, 1)), (223, (260, 1, 0, 3)), (225, (186, 0, 8, 1)), (226, (261, 1, 0, 3)), (228, (187, 0, 8, 1)), (229, (262, 1, 0, 3)), (231, (188, 0, 8, 1)), (232, (263, 1, 0, 3)), (235, (189, 0, 8, 1)), (236, (264, 1, 0, 4)), (239, (190, 0, 8, 2)), (240, (265, 1, 0, 3)), (242, (191, 0, 8, 1)), (243, (266, 1, 0, 3)), (245, (192, 0, 8, 1)), (246, (267, 1, 0, 3)), (248, (193, 0, 8, 1)), (249, (268, 1, 0, 3)), (251, (195, 0, 8, 1)), (252, (269, 1, 0, 3)), (254, (196, 0, 8, 1)), (255, (270, 1, 0, 3)), (257, (197, 0, 8, 1)), (258, (271, 1, 0, 3)), (260, (198, 0, 8, 1)), (261, (272, 1, 0, 4)), (263, (199, 0, 8, 2)), (264, (273, 1, 0, 4)), (266, (201, 0, 8, 2)), (267, (274, 1, 0, 3)), (269, (202, 0, 8, 1)), (270, (275, 1, 0, 3)), (272, (203, 0, 8, 1)), (273, (276, 1, 0, 3)), (275, (210, 0, 8, 1)), (276, (277, 1, 0, 4)), (278, (211, 0, 8, 2)), (279, (278, 1, 0, 3)), (281, (212, 0, 8, 1)), (282, (65, 0, 7, 0)), (286, (213, 0, 8, 0)), (287, (66, 0, 7, 0)), (290, (214, 0, 8, 0)), (291, (67, 0, 7, 0)), (294, (215, 0, 8, 0)), (295, (279, 1, 0, 2)), (298, (216, 0, 8, 0)), (299, (68, 0, 7, 0)), (303, (217, 0, 8, 0)), (304, (280, 1, 0, 3)), (306, (218, 0, 8, 1)), (307, (69, 0, 7, 0)), (311, (220, 0, 8, 0)), (312, (281, 1, 0, 3)), (314, (221, 0, 8, 1)), (315, (282, 1, 0, 3)), (317, (224, 0, 8, 1)), (318, (283, 1, 0, 3)), (320, (225, 0, 8, 1)), (321, (284, 1, 0, 3)), (323, (226, 0, 8, 1)), (324, (285, 1, 0, 2)), (327, (227, 0, 8, 0)), (328, (286, 1, 0, 2)), (330, (241, 0, 8, 0)), (331, (287, 1, 0, 2)), (333, (243, 0, 8, 0)), (334, (288, 1, 0, 2)), (336, (244, 0, 8, 0)), (337, (72, 0, 7, 0)), (340, (245, 0, 8, 0)), (341, (289, 1, 0, 2)), (343, (246, 0, 8, 0))]
def LKm_10 : List (Nat × (Nat × Nat × Nat × Nat)) := [(32, (310, 0, 10, 0)), (40, (311, 0, 10, 0)), (83, (296, 5, 9, 0)), (100, (294, 5, 9, 1)), (104, (295, 5, 9, 1)), (108, (321, 1, 0, 2)), (114, (322, 1, 0, 3)), (144, (313, 1, 0, 2)), (191, (316, 1, 0, 1)), (208, (297, 5, 9, 2)), (245, (318, 1, 0, 1)), (248, (319, 1, 0, 3)), (397, (298, 5, 9, 1)), (399, (312, 0, 10, 3))]
def LKm_11 : List (Nat × (Nat × Nat × Nat × Nat)) := [(1, (291, 2, 0, 1)), (29, (293, 6, 9, 1)), (50, (301, 6, 9, 1)), (53, (299, 6, 9, 1)), (329, (302, 6, 9, 1)), (333, (292, 6, 9, 1)), (343, (300, 6, 9, 0))]
def LKm_12 : List (Nat × (Nat × Nat × Nat × Nat)) := [(335, (311, 0, 10, 0)), (492, (315, 0, 10, 0)), (495, (317, 1, 0, 2)), (1047, (296, 5, 9, 0)), (1059, (323, 1, 0, 3))]
def LKm_13 : List (Nat × (Nat × Nat × Nat × Nat)) := [(9, (313, 1, 0, 2))]
def LKm_14 : List (Nat × (Nat × Nat × Nat × Nat)) := []
def LKm_15 : List (Nat × (Nat × Nat × Nat × Nat)) := []
def LKm_16 : List (Nat × (Nat × Nat × Nat × Nat)) := [(47, (303, 2, 0, 0)), (50, (305, 0, 9, 1)), (54, (306, 0, 9, 1))]
def LKm_17 : List (Nat × (Nat × Nat × Nat × Nat)) := []
def LKm_18 : List (Nat × (Nat × Nat × Nat × Nat)) := []
def LKmT : List (List (Nat × (Nat × Nat × Nat × Nat))) := [LKm_0, LKm_1, LKm_2, LKm_3, LKm_4, LKm_5, LKm_6, LKm_7, LKm_8, LKm_9, LKm_10, LKm_11, LKm_12, LKm_13, LKm_14, LKm_15, LKm_16, LKm_17, LKm_18]
def LKm (o i : Nat) : Option ((Nat × Nat × Nat × Nat)) := (LKmT[o]?).bind (fun l => l.lookup i)
def LKc_0 : List (Nat × Nat) := []
def LKc_1 : List (Nat × Nat) := []
def LKc_2 : List (Nat × Nat) := [(11, 6)]
def LKc_3 : List (Nat × Nat) := []
def LKc_4 : List (Nat × Nat) := [(9, 3)]
def LKc_5 : List (Nat × Nat) := [(22, 1)]
def LKc_6 : List (Nat × Nat) := [(9, 3), (24, 0)]
def LKc_7 : List (Nat × Nat) := [(7, 6), (23, 2), (30, 4), (37, 5), (44, 9)]
def LKc_8 : List (Nat × Nat) := []
def LKc_9 : List (Nat × Nat) := [(8, 7), (163, 8)]
def LKc_10 : List (Nat × Nat) := []
def LKc_11 : List (Nat × Nat) := []
def LKc_12 : List (Nat × Nat) := []
def LKc_13 : List (Nat × Nat) := []
def LKc_14 : List (Nat × Nat) := []
def LKc_15 : List (Nat × Nat) := []
def LKc_16 : List (Nat × Nat) := [(45, 9)]
def LKc_17 : List (Nat × Nat) := []
def LKc_18 : List (Nat × Nat) := []
def LKcT : List (List (Nat × Nat)) := [LKc_0, LKc_1, LKc_2, LKc_3, LKc_4, LKc_5, LKc_6, LKc_7, LKc_8, LKc_9, LKc_10, LKc_11, LKc_12, LKc_13, LKc_14, LKc_15, LKc_16, LKc_17, LKc_18]
def LKc (o i : Nat) : Option (Nat) := (LKcT[o]?).bind (fun l => l.lookup i)
def LKa_0 : List (Nat × Nat) := []
def LKa_1 : List (Nat × Nat) := []
def LKa_2 : List (Nat × Nat) := [(11, 6)]
def LKa_3 : List (Nat × Nat) := []
def LKa_4 : List (Nat × Nat) := [(9, 3)]
def LKa_5 : List (Nat × Nat) := [(22, 1)]
def LKa_6 : List (Nat × Nat) := [(9, 3), (24, 0)]
def LKa_7 : List (Nat × Nat) := [(7, 6)]
def LKa_8 : List (Nat × Nat) := []
def LKa_9 : List (Nat × Nat) := []
def LKa_10 : List (Nat × Nat) := []
def LKa_11 : List (Nat × Nat) := []
def LKa_12 : List (Nat × Nat) := []
def LKa_13 : List (Nat × Nat) := []
def LKa_14 : List (Nat × Nat) := []
def LKa_15 : List (Nat × Nat) := []
def LKa_16 : List (Nat × Nat) := []
def LKa_17 : List (Nat × Nat) := []
def LKa_18 : List (Nat × Nat) := []
def LKaT : List (List (Nat × Nat)) := [LKa_0, LKa_1, LKa_2, LKa_3, LKa_4, LKa_5, LKa_6, LKa_7, LKa_8, LKa_9, LKa_10, LKa_11, LKa_12, LKa_13, LKa_14, LKa_15, LKa_16, LKa_17, LKa_18]
def LKa (o i : Nat) : Option (Nat) := (LKaT[o]?).bind (fun l => l.lookup i)
def LKs_0 : List (Nat × Nat) := []
def LKs_1 : List (Nat × Nat) := [(9, 5)]
def LKs_2 : List (Nat × Nat) := []
def LKs_3 : List (Nat × Nat) := []
def LKs_4 : List (Nat × Nat) := []
def LKs_5 : List (Nat × Nat) := [(40, 3)]
def LKs_6 : List (Nat × Nat) := []
def LKs_7 : List (Nat × Nat) := [(333, 4)]
def LKs_8 : List (Nat × Nat) := []
def LKs_9 : List (Nat × Nat) := []
def LKs_10 : List (Nat × Nat) := [(18, 0)]
def LKs_11 : List (Nat × Nat) := []
def LKs_12 : List (Nat × Nat) := [(38, 0), (1053, 6)]
def LKs_13 : List (Nat × Nat) := []
def LKs_14 : List (Nat × Nat) := [(83, 1), (87, 2)]
def LKs_15 : List (Nat × Nat) := []
def LKs_16 : List (Nat × Nat) := []
def LKs_17 : List (Nat × Nat) := []
def LKs_18 : List (Nat × Nat) := []
def LKsT : List (List (Nat × Nat)) := [LKs_0, LKs_1, LKs_2, LKs_3, LKs_4, LKs_5, LKs_6, LKs_7, LKs_8, LKs_9, LKs_10, LKs_11, LKs_12, LKs_13, LKs_14, LKs_15, LKs_16, LKs_17, LKs_18]
def LKs (o i : Nat) : Option (Nat) := (LKsT[o]?).bind (fun l => l.lookup i)
def LKt_0 : List (Nat × Nat) := []
def LKt_1 : List (Nat × Nat) := []
def LKt_2 : List (Nat × Nat) := []
def LKt_3 : List (Nat × Nat) := []
def LKt_4 : List (Nat × Nat) := []
def LKt_5 : List (Nat × Nat) := []
def LKt_6 : List (Nat × Nat) := []
def LKt_7 : List (Nat × Nat) := [(266, 7)]
def LKt_8 : List (Nat × Nat) := []
def LKt_9 : List (Nat × Nat) := []
def LKt_10 : List (Nat × Nat) := []
def LKt_11 : List (Nat × Nat) := []
def LKt_12 : List (Nat × Nat) := []
def LKt_13 : List (Nat × Nat) := []
def LKt_14 : List (Nat × Nat) := []
def LKt_15 : List (Nat × Nat) := []
def LKt_16 : List (Nat × Nat) := []
def LKt_17 : List (Nat × Nat) := []
def LKt_18 : List (Nat × Nat) := []
def LKtT : List (List (Nat × Nat)) := [LKt_0, LKt_1, LKt_2, LKt_3, LKt_4, LKt_5, LKt_6, LKt_7, LKt_8, LKt_9, LKt_10, LKt_11, LKt_12, LKt_13, LKt_14, LKt_15, LKt_16, LKt_17, LKt_18]
def LKt (o i : Nat) : Option (Nat) := (LKtT[o]?).bind (fun l => l.lookup i)
def LKo_0 : List (Nat × Nat) := [(3, 1)]
def LKo_1 : List (Nat × Nat) := [(3, 1)]
def LKo_2 : List (Nat × Nat) := [(3, 1)]
def LKo_3 : List (Nat × Nat) := [(3, 1)]
def LKo_4 : List (Nat × Nat) := [(3, 1)]
def LKo_5 : List (Nat × Nat) := [(3, 1)]
def LKo_6 : List (Nat × Nat) := [(3, 1)]
def LKo_7 : List (Nat × Nat) := [(1, 1)]
def LKo_8 : List (Nat × Nat) := [(1, 1)]
def LKo_9 : List (Nat × Nat) := []
def LKo_10 : List (Nat × Nat) := [(3, 1)]
def LKo_11 : List (Nat × Nat) := []
def LKo_12 : List (Nat × Nat) := [(1, 1)]
def LKo_13 : List (Nat × Nat) := []
def LKo_14 : List (Nat × Nat) := []
def LKo_15 : List (Nat × Nat) := []
def LKo_16 : List (Nat × Nat) := []
def LKo_17 : List (Nat × Nat) := []
def LKo_18 : List (Nat × Nat) := []
def LKoT : List (List (Nat × Nat)) := [LKo_0, LKo_1, LKo_2, LKo_3, LKo_4, LKo_5, LKo_6, LKo_7, LKo_8, LKo_9, LKo_10, LKo_11, LKo_12, LKo_13, LKo_14, LKo_15, LKo_16, LKo_17, LKo_18]
def LKo (o i : Nat) : Option (Nat) := (LKoT[o]?).bind (fun l => l.lookup i)
def LKh_0 : List (Nat × Nat) := []
def LKh_1 : List (Nat × Nat) := []
def LKh_2 : List (Nat × Nat) := [(29, 2)]
def LKh_3 : List (Nat × Nat) := [(40, 1)]
def LKh_4 : List (Nat × Nat) := [(83, 2)]
def LKh_5 : List (Nat × Nat) := [(62, 1)]
def LKh_6 : List (Nat × Nat) := []
def LKh_7 : List (Nat × Nat) := [(353, 0)]
def LKh_8 : List (Nat × Nat) := []
def LKh_9 : List (Nat × Nat) := []
def LKh_10 : List (Nat × Nat) := [(138, 2)]
def LKh_11 : List (Nat × Nat) := []
def LKh_12 : List (Nat × Nat) := []
def LKh_13 : List (Nat × Nat) := []
def LKh_14 : List (Nat × Nat) := []
def LKh_15 : List (Nat × Nat) := []
def LKh_16 : List (Nat × Nat) := [(304, 2)]
def LKh_17 : List (Nat × Nat) := [(194, 1)]
def LKh_18 : List (Nat × Nat) := []
def LKhT : List (List (Nat × Nat)) := [LKh_0, LKh_1, LKh_2, LKh_3, LKh_4, LKh_5, LKh_6, LKh_7, LKh_8, LKh_9, LKh_10, LKh_11, LKh_12, LKh_13, LKh_14, LKh_15, LKh_16, LKh_17, LKh_18]
def LKh (o i : Nat) : Option (Nat) := (LKhT[o]?).bind (fun l => l.lookup i)
def LKk_0 : List (Nat × Value) := []
def LKk_1 : List (Nat × Value) := []
def LKk_2 : List (Nat × Value) := []
def LKk_3 : List (Nat × Value) := []
def LKk_4 : List (Nat × Value) := []
def LKk_5 : List (Nat × Value) := []
def LKk_6 : List (Nat × Value) := []
def LKk_7 : List (Nat × Value) := [(223, .long 10), (229, .long 2), (240, .float 1086324736)]
def LKk_8 : List (Nat × Value) := [(244, .float 1086324736)]
def LKk_9 : List (Nat × Value) := []
def LKk_10 : List (Nat × Value) := [(39, .int 2147483647)]
def LKk_11 : List (Nat × Value) := []
def LKk_12 : List (Nat × Value) := []
def LKk_13 : List (Nat × Value) := []
def LKk_14 : List (Nat × Value) := []
def LKk_15 : List (Nat × Value) := []
def LKk_16 : List (Nat × Value) := []
def LKk_17 : List (Nat × Value) := [(200, .int 2147483639)]
def LKk_18 : List (Nat × Value) := []
def LKkT : List (List (Nat × Value)) := [LKk_0, LKk_1, LKk_2, LKk_3, LKk_4, LKk_5, LKk_6, LKk_7, LKk_8, LKk_9, LKk_10, LKk_11, LKk_12, LKk_13, LKk_14, LKk_15, LKk_16, LKk_17, LKk_18]
def LKk (o i : Nat) : Option (Value) := (LKkT[o]?).bind (fun l => l.lookup i)
def LKx_0 : List (Nat × (String × Nat)) := []
def LKx_1 : List (Nat × (String × Nat)) := []
def LKx_2 : List (Nat × (String × Nat)) := []
def LKx_3 : List (Nat × (String × Nat)) := []
def LKx_4 : List (Nat × (String × Nat)) := []
def LKx_5 : List (Nat × (String × Nat)) := []
def LKx_6 : List (Nat × (String × Nat)) := []
def LKx_7 : List (Nat × (String × Nat)) := [(134, ("java/util/NoSuchElementException", 136)), (171, ("java/lang/IndexOutOfBoundsException", 173)), (237, ("java/lang/ArithmeticException", 239)), (283, ("java/lang/IllegalStateException", 285)), (294, ("java/lang/IllegalArgumentException", 296)), (303, ("java/lang/UnsupportedOperationException", 305))]
def LKx_8 : List (Nat × (String × Nat)) := []
def LKx_9 : List (Nat × (String × Nat)) := []
def LKx_10 : List (Nat × (String × Nat)) := []
def LKx_11 : List (Nat × (String × Nat)) := []
def LKx_12 : List (Nat × (String × Nat)) := []
def LKx_13 : List (Nat × (String × Nat)) := []
def LKx_14 : List (Nat × (String × Nat)) := []
def LKx_15 : List (Nat × (String × Nat)) := []
def LKx_16 : List (Nat × (String × Nat)) := []
def LKx_17 : List (Nat × (String × Nat)) := []
def LKx_18 : List (Nat × (String × Nat)) := []
def LKxT : List (List (Nat × (String × Nat))) := [LKx_0, LKx_1, LKx_2, LKx_3, LKx_4, LKx_5, LKx_6, LKx_7, LKx_8, LKx_9, LKx_10, LKx_11, LKx_12, LKx_13, LKx_14, LKx_15, LKx_16, LKx_17, LKx_18]
def LKx (o i : Nat) : Option ((String × Nat)) := (LKxT[o]?).bind (fun l => l.lookup i)
def LKy_0 : List (Nat × Nat) := [(28, 1)]
def LKy_1 : List (Nat × Nat) := []
def LKy_2 : List (Nat × Nat) := []
def LKy_3 : List (Nat × Nat) := []
def LKy_4 : List (Nat × Nat) := [(121, 1)]
def LKy_5 : List (Nat × Nat) := []
def LKy_6 : List (Nat × Nat) := [(56, 1)]
def LKy_7 : List (Nat × Nat) := []
def LKy_8 : List (Nat × Nat) := []
def LKy_9 : List (Nat × Nat) := []
def LKy_10 : List (Nat × Nat) := []
def LKy_11 : List (Nat × Nat) := []
def LKy_12 : List (Nat × Nat) := [(212, 1)]
def LKy_13 : List (Nat × Nat) := []
def LKy_14 : List (Nat × Nat) := []
def LKy_15 : List (Nat × Nat) := []
def LKy_16 : List (Nat × Nat) := [(150, 1)]
def LKy_17 : List (Nat × Nat) := []
def LKy_18 : List (Nat × Nat) := []
def LKyT : List (List (Nat × Nat)) := [LKy_0, LKy_1, LKy_2, LKy_3, LKy_4, LKy_5, LKy_6, LKy_7, LKy_8, LKy_9, LKy_10, LKy_11, LKy_12, LKy_13, LKy_14, LKy_15, LKy_16, LKy_17, LKy_18]
def LKy (o i : Nat) : Option (Nat) := (LKyT[o]?).bind (fun l => l.lookup i)
