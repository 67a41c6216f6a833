def RX_H : String := "HistoryJudge"
def TX_H : u_T := fun k => match k with
  | 0 => ("HistoryJudge", "program", "LHistoryJudge$Program;", true)
  | 1 => ("HistoryJudge", "trial", "LHistoryJudge$Program;", true)
  | 2 => ("HistoryJudge", "tester", "LHistoryJudge$Tester;", true)
  | 3 => ("HistoryJudge", "draws", "LHistoryJudge$Draws;", true)
  | 4 => ("HistoryJudge", "taken", "I", false)
  | _ => ("HistoryJudge", "runIsCurrent", "Z", false)
def tyX_H : Nat → FieldType := fun k => match k with
  | 0 => .object "HistoryJudge$Program"
  | 1 => .object "HistoryJudge$Program"
  | 2 => .object "HistoryJudge$Tester"
  | 3 => .object "HistoryJudge$Draws"
  | 4 => .int
  | _ => .boolean
def RX_P : String := "HistoryJudge$Program"
def TX_P : u_T := fun k => match k with
  | 0 => ("HistoryJudge$Program", "sizes", "[I", true)
  | 1 => ("HistoryJudge$Program", "kinds", "[I", true)
  | 2 => ("HistoryJudge$Program", "cells", "[I", true)
  | _ => ("HistoryJudge$Program", "arguments", "[I", true)
def tyX_P : Nat → FieldType := fun k => match k with
  | 0 => .array .int
  | 1 => .array .int
  | 2 => .array .int
  | _ => .array .int
def RX_T : String := "HistoryJudge$Tester"
def TX_T : u_T := fun k => match k with
  | 0 => ("HistoryJudge$Tester", "machine", "LHistoryJudge$Machine;", true)
  | 1 => ("HistoryJudge$Tester", "judge", "LHistoryJudge$Judge;", true)
  | 2 => ("HistoryJudge$Tester", "tallies", "[I", true)
  | 3 => ("HistoryJudge$Tester", "flawBits", "I", false)
  | 4 => ("HistoryJudge$Tester", "runs", "I", false)
  | 5 => ("HistoryJudge$Tester", "unexplained", "I", false)
  | 6 => ("HistoryJudge$Tester", "schedule", "I", false)
  | 7 => ("HistoryJudge$Tester", "explained", "Z", false)
  | _ => ("HistoryJudge$Tester", "draws", "LHistoryJudge$Draws;", true)
def tyX_T : Nat → FieldType := fun k => match k with
  | 0 => .object "HistoryJudge$Machine"
  | 1 => .object "HistoryJudge$Judge"
  | 2 => .array .int
  | 3 => .int
  | 4 => .int
  | 5 => .int
  | 6 => .int
  | 7 => .boolean
  | _ => .object "HistoryJudge$Draws"
def RX_M : String := "HistoryJudge$Machine"
def TX_M : u_T := fun k => match k with
  | 0 => ("HistoryJudge$Machine", "answers", "[I", true)
  | 1 => ("HistoryJudge$Machine", "numbers", "[I", true)
  | 2 => ("HistoryJudge$Machine", "calls", "[I", true)
  | 3 => ("HistoryJudge$Machine", "returns", "[I", true)
  | 4 => ("HistoryJudge$Machine", "cells", "I", false)
  | 5 => ("HistoryJudge$Machine", "nextCommand", "[I", true)
  | 6 => ("HistoryJudge$Machine", "nextEvent", "[I", true)
  | 7 => ("HistoryJudge$Machine", "noted", "[I", true)
  | _ => ("HistoryJudge$Machine", "flawBits", "I", false)
def tyX_M : Nat → FieldType := fun k => match k with
  | 0 => .array .int
  | 1 => .array .int
  | 2 => .array .int
  | 3 => .array .int
  | 4 => .int
  | 5 => .array .int
  | 6 => .array .int
  | 7 => .array .int
  | _ => .int
def RX_J : String := "HistoryJudge$Judge"
def TX_J : u_T := fun k => match k with
  | _ => ("HistoryJudge$Judge", "witness", "[I", true)
def tyX_J : Nat → FieldType := fun k => match k with
  | _ => .array .int
def RX_D : String := "HistoryJudge$Draws"
def TX_D : u_T := fun k => match k with
  | _ => ("HistoryJudge$Draws", "state", "J", false)
def tyX_D : Nat → FieldType := fun k => match k with
  | _ => .long
def RX_R : String := "HistoryJudgeModel"
def TX_R : u_T := fun k => match k with
  | 0 => ("HistoryJudgeModel", "thrown", "I", false)
  | 1 => ("HistoryJudgeModel", "sizes", "[I", true)
  | 2 => ("HistoryJudgeModel", "kind", "[I", true)
  | 3 => ("HistoryJudgeModel", "cell", "[I", true)
  | 4 => ("HistoryJudgeModel", "argument", "[I", true)
  | 5 => ("HistoryJudgeModel", "keptSizes", "[I", true)
  | 6 => ("HistoryJudgeModel", "kept", "[I", true)
  | 7 => ("HistoryJudgeModel", "flaws", "I", false)
  | 8 => ("HistoryJudgeModel", "g", "J", false)
  | 9 => ("HistoryJudgeModel", "holds", "[I", true)
  | 10 => ("HistoryJudgeModel", "open", "[Z", true)
  | 11 => ("HistoryJudgeModel", "has", "[I", true)
  | 12 => ("HistoryJudgeModel", "isOpen", "[Z", true)
  | 13 => ("HistoryJudgeModel", "ran", "Z", false)
  | 14 => ("HistoryJudgeModel", "explained", "Z", false)
  | 15 => ("HistoryJudgeModel", "answer", "[I", true)
  | 16 => ("HistoryJudgeModel", "number", "[I", true)
  | 17 => ("HistoryJudgeModel", "call", "[I", true)
  | 18 => ("HistoryJudgeModel", "back", "[I", true)
  | 19 => ("HistoryJudgeModel", "noted", "[I", true)
  | 20 => ("HistoryJudgeModel", "at", "[I", true)
  | 21 => ("HistoryJudgeModel", "event", "[I", true)
  | 22 => ("HistoryJudgeModel", "witness", "I", false)
  | 23 => ("HistoryJudgeModel", "runs", "I", false)
  | 24 => ("HistoryJudgeModel", "wrong", "I", false)
  | 25 => ("HistoryJudgeModel", "taken", "I", false)
  | 26 => ("HistoryJudgeModel", "failing", "I", false)
  | _ => ("HistoryJudgeModel", "tallies", "[I", true)
def tyX_R : Nat → FieldType := fun k => match k with
  | 0 => .int
  | 1 => .array .int
  | 2 => .array .int
  | 3 => .array .int
  | 4 => .array .int
  | 5 => .array .int
  | 6 => .array .int
  | 7 => .int
  | 8 => .long
  | 9 => .array .int
  | 10 => .array .boolean
  | 11 => .array .int
  | 12 => .array .boolean
  | 13 => .boolean
  | 14 => .boolean
  | 15 => .array .int
  | 16 => .array .int
  | 17 => .array .int
  | 18 => .array .int
  | 19 => .array .int
  | 20 => .array .int
  | 21 => .array .int
  | 22 => .int
  | 23 => .int
  | 24 => .int
  | 25 => .int
  | 26 => .int
  | _ => .array .int
abbrev clX : List vw_C := [(RX_H, TX_H, 6), (RX_P, TX_P, 4), (RX_T, TX_T, 9), (RX_M, TX_M, 9), (RX_J, TX_J, 1), (RX_D, TX_D, 1), (RX_R, TX_R, 28)]
def y_P_size : MethodName := ⟨"HistoryJudge$Program", "size", "()I"⟩
def y_P_empty : MethodName := ⟨"HistoryJudge$Program", "empty", "()V"⟩
def y_H_clear : MethodName := ⟨"HistoryJudge", "clear", "()I"⟩
def y_H_isBelow : MethodName := ⟨"HistoryJudge", "isBelow", "(II)Z"⟩
def y_P_copyFrom : MethodName := ⟨"HistoryJudge$Program", "copyFrom", "(LHistoryJudge$Program;)V"⟩
def y_P_start : MethodName := ⟨"HistoryJudge$Program", "start", "(I)I"⟩
def y_P_end : MethodName := ⟨"HistoryJudge$Program", "end", "(I)I"⟩
def y_P_put : MethodName := ⟨"HistoryJudge$Program", "put", "(IIII)V"⟩
def y_P_shiftUp : MethodName := ⟨"HistoryJudge$Program", "shiftUp", "(II)V"⟩
def y_P_renumber : MethodName := ⟨"HistoryJudge$Program", "renumber", "(II)V"⟩
def y_P_append : MethodName := ⟨"HistoryJudge$Program", "append", "(IIII)V"⟩
def y_O_isOpen : MethodName := ⟨"HistoryJudge$Model", "isOpen", "(II)Z"⟩
def y_O_source : MethodName := ⟨"HistoryJudge$Model", "source", "(I)I"⟩
def y_O_allows : MethodName := ⟨"HistoryJudge$Model", "allows", "(III)Z"⟩
def y_O_content : MethodName := ⟨"HistoryJudge$Model", "content", "(II)I"⟩
def y_O_held : MethodName := ⟨"HistoryJudge$Model", "held", "(II)I"⟩
def y_O_after : MethodName := ⟨"HistoryJudge$Model", "after", "(IIII)I"⟩
def y_P_isValidBeside : MethodName := ⟨"HistoryJudge$Program", "isValidBeside", "(II)Z"⟩
def y_P_isValid : MethodName := ⟨"HistoryJudge$Program", "isValid", "()Z"⟩
def y_H_appendIfValid : MethodName := ⟨"HistoryJudge", "appendIfValid", "(IIII)Z"⟩
def y_D_below : MethodName := ⟨"HistoryJudge$Draws", "below", "(I)I"⟩
def y_P_known : MethodName := ⟨"HistoryJudge$Program", "known", "(I)I"⟩
def y_P_knownAt : MethodName := ⟨"HistoryJudge$Program", "knownAt", "(II)I"⟩
def y_H_drawCommand : MethodName := ⟨"HistoryJudge", "drawCommand", "(I)Z"⟩
def y_H_drawBranch : MethodName := ⟨"HistoryJudge", "drawBranch", "(II)V"⟩
def y_P_lower : MethodName := ⟨"HistoryJudge$Program", "lower", "(IZ)Z"⟩
def y_P_hasRoom : MethodName := ⟨"HistoryJudge$Program", "hasRoom", "(I)Z"⟩
def y_P_promote : MethodName := ⟨"HistoryJudge$Program", "promote", "(I)Z"⟩
def y_P_isNeeded : MethodName := ⟨"HistoryJudge$Program", "isNeeded", "(I)Z"⟩
def y_P_branchOf : MethodName := ⟨"HistoryJudge$Program", "branchOf", "(I)I"⟩
def y_P_remove : MethodName := ⟨"HistoryJudge$Program", "remove", "(I)Z"⟩
def y_H_prepareCandidate : MethodName := ⟨"HistoryJudge", "prepareCandidate", "(I)Z"⟩
def y_P_mayTake : MethodName := ⟨"HistoryJudge$Program", "mayTake", "(II)Z"⟩
def y_O_answer : MethodName := ⟨"HistoryJudge$Model", "answer", "(IIII)I"⟩
def y_R_thrown : MethodName := ⟨"HistoryJudgeModel", "thrown", "()I"⟩
def y_R_fail : MethodName := ⟨"HistoryJudgeModel", "fail", "(I)I"⟩
def y_R_within : MethodName := ⟨"HistoryJudgeModel", "within", "(III)Z"⟩
def y_R_many : MethodName := ⟨"HistoryJudgeModel", "many", "()I"⟩
def y_R_branch : MethodName := ⟨"HistoryJudgeModel", "branch", "(I)I"⟩
def y_R_first : MethodName := ⟨"HistoryJudgeModel", "first", "(I)I"⟩
def y_R_mayStand : MethodName := ⟨"HistoryJudgeModel", "mayStand", "(III)Z"⟩
def y_R_placed : MethodName := ⟨"HistoryJudgeModel", "placed", "(II)I"⟩
def y_R_isOrder : MethodName := ⟨"HistoryJudgeModel", "isOrder", "(I)Z"⟩
def y_R_finds : MethodName := ⟨"HistoryJudgeModel", "finds", "(I)Z"⟩
def y_R_fits : MethodName := ⟨"HistoryJudgeModel", "fits", "(I)Z"⟩
def y_R_valid : MethodName := ⟨"HistoryJudgeModel", "valid", "()Z"⟩
def y_R_keep : MethodName := ⟨"HistoryJudgeModel", "keep", "()V"⟩
def y_R_putBack : MethodName := ⟨"HistoryJudgeModel", "putBack", "()V"⟩
def y_R_copy : MethodName := ⟨"HistoryJudgeModel", "copy", "(II)V"⟩
def y_R_insert : MethodName := ⟨"HistoryJudgeModel", "insert", "(IIII)I"⟩
def y_R_leaveOut : MethodName := ⟨"HistoryJudgeModel", "leaveOut", "(I)Z"⟩
def y_R_raise : MethodName := ⟨"HistoryJudgeModel", "raise", "(I)V"⟩
def y_R_add : MethodName := ⟨"HistoryJudgeModel", "add", "(IIII)I"⟩
def y_R_clear : MethodName := ⟨"HistoryJudgeModel", "clear", "()I"⟩
def y_R_drawn : MethodName := ⟨"HistoryJudgeModel", "drawn", "(I)I"⟩
def y_R_before : MethodName := ⟨"HistoryJudgeModel", "before", "(III)I"⟩
def y_R_tried : MethodName := ⟨"HistoryJudgeModel", "tried", "(I)V"⟩
def y_R_make : MethodName := ⟨"HistoryJudgeModel", "make", "(JIII)I"⟩
def y_R_flaws : MethodName := ⟨"HistoryJudgeModel", "flaws", "(I)I"⟩
def y_R_twoParts : MethodName := ⟨"HistoryJudgeModel", "twoParts", "(I)Z"⟩
def y_R_isLate : MethodName := ⟨"HistoryJudgeModel", "isLate", "(I)Z"⟩
def y_R_source : MethodName := ⟨"HistoryJudgeModel", "source", "(I)I"⟩
def y_R_does : MethodName := ⟨"HistoryJudgeModel", "does", "(I)V"⟩
def y_R_calls : MethodName := ⟨"HistoryJudgeModel", "calls", "(I)V"⟩
def y_R_events : MethodName := ⟨"HistoryJudgeModel", "events", "(I)I"⟩
def y_R_happens : MethodName := ⟨"HistoryJudgeModel", "happens", "(III)V"⟩
def y_R_hasLeft : MethodName := ⟨"HistoryJudgeModel", "hasLeft", "(I)Z"⟩
def y_R_go : MethodName := ⟨"HistoryJudgeModel", "go", "(I)V"⟩
def y_R_right : MethodName := ⟨"HistoryJudgeModel", "right", "(I)I"⟩
def y_R_explains : MethodName := ⟨"HistoryJudgeModel", "explains", "(I)Z"⟩
def y_R_judged : MethodName := ⟨"HistoryJudgeModel", "judged", "(I)Z"⟩
def y_R_run : MethodName := ⟨"HistoryJudgeModel", "run", "(I)Z"⟩
def y_R_failed : MethodName := ⟨"HistoryJudgeModel", "failed", "(JI)I"⟩
def y_R_fails : MethodName := ⟨"HistoryJudgeModel", "fails", "(JI)I"⟩
def y_R_takes : MethodName := ⟨"HistoryJudgeModel", "takes", "(ZJI)Z"⟩
def y_R_smaller : MethodName := ⟨"HistoryJudgeModel", "smaller", "(JI)Z"⟩
def y_R_shrink : MethodName := ⟨"HistoryJudgeModel", "shrink", "(JI)I"⟩
def y_R_command : MethodName := ⟨"HistoryJudgeModel", "command", "(II)I"⟩
def y_R_event : MethodName := ⟨"HistoryJudgeModel", "event", "(II)I"⟩
def y_R_order : MethodName := ⟨"HistoryJudgeModel", "order", "(I)I"⟩
def y_R_cell : MethodName := ⟨"HistoryJudgeModel", "cell", "(I)I"⟩
def y_R_count : MethodName := ⟨"HistoryJudgeModel", "count", "(I)I"⟩
def y_R_tally : MethodName := ⟨"HistoryJudgeModel", "tally", "(I)I"⟩
def y_M_numberOf : MethodName := ⟨"HistoryJudge$Machine", "numberOf", "(I)I"⟩
def y_M_isSplit : MethodName := ⟨"HistoryJudge$Machine", "isSplit", "(I)Z"⟩
def y_M_isLate : MethodName := ⟨"HistoryJudge$Machine", "isLate", "(I)Z"⟩
def y_M_act : MethodName := ⟨"HistoryJudge$Machine", "act", "(III)V"⟩
def y_M_actByNote : MethodName := ⟨"HistoryJudge$Machine", "actByNote", "(IIII)V"⟩
def y_M_step : MethodName := ⟨"HistoryJudge$Machine", "step", "(LHistoryJudge$Program;II)V"⟩
def y_M_perform : MethodName := ⟨"HistoryJudge$Machine", "perform", "(LHistoryJudge$Program;II)V"⟩
def y_J_answersSo : MethodName := ⟨"HistoryJudge$Judge", "answersSo", "(LHistoryJudge$Program;LHistoryJudge$Machine;II)Z"⟩
def y_J_after : MethodName := ⟨"HistoryJudge$Judge", "after", "(LHistoryJudge$Program;LHistoryJudge$Machine;II)I"⟩
def y_J_search : MethodName := ⟨"HistoryJudge$Judge", "search", "(LHistoryJudge$Program;LHistoryJudge$Machine;IIII)Z"⟩
def y_J_explains : MethodName := ⟨"HistoryJudge$Judge", "explains", "(LHistoryJudge$Program;LHistoryJudge$Machine;)Z"⟩
def y_T_test : MethodName := ⟨"HistoryJudge$Tester", "test", "(LHistoryJudge$Program;I)Z"⟩
def y_D_restart : MethodName := ⟨"HistoryJudge$Draws", "restart", "(J)V"⟩
def y_T_firstFailure : MethodName := ⟨"HistoryJudge$Tester", "firstFailure", "(LHistoryJudge$Program;JI)I"⟩
def y_H_init : MethodName := ⟨"HistoryJudge", "<init>", "()V"⟩
def y_P_init : MethodName := ⟨"HistoryJudge$Program", "<init>", "()V"⟩
def y_T_init : MethodName := ⟨"HistoryJudge$Tester", "<init>", "()V"⟩
def y_M_init : MethodName := ⟨"HistoryJudge$Machine", "<init>", "()V"⟩
def y_J_init : MethodName := ⟨"HistoryJudge$Judge", "<init>", "()V"⟩
def y_D_init : MethodName := ⟨"HistoryJudge$Draws", "<init>", "()V"⟩
def y_R_init : MethodName := ⟨"HistoryJudgeModel", "<init>", "()V"⟩
def nwX : ev_N := [("HistoryJudge", 11, y_P_init, "HistoryJudge"), ("HistoryJudge$Tester", 11, y_M_init, "HistoryJudge"), ("HistoryJudge$Tester", 20, y_J_init, "HistoryJudge"), ("HistoryJudge$Tester", 48, y_D_init, "HistoryJudge"), ("HistoryJudge", 21, y_T_init, "HistoryJudge"), ("HistoryJudge", 28, y_D_init, "HistoryJudge")]
def lg_0 : List Jvm.Cond := [(Jvm.Cond.fieldLink "HistoryJudge" (12 : Nat) "HistoryJudge" "program" "LHistoryJudge$Program;"),
  (Jvm.Cond.fieldLink "HistoryJudge$Program" (9 : Nat) "HistoryJudge$Program" "sizes" "[I"),
  (Jvm.Cond.code ({ cls := "HistoryJudge$Program", name := "size", desc := "()I" } : Jvm.MethodName) prog_6_method_2_code (1 : Nat) (Option.some Jvm.ClassFile.FieldType.int)),
  (Jvm.Cond.methodLink "HistoryJudge" (79 : Nat) ({ cls := "HistoryJudge$Program", name := "size", desc := "()I" } : Jvm.MethodName)),
  (Jvm.Cond.instanceMethod ({ cls := "HistoryJudge$Program", name := "size", desc := "()I" } : Jvm.MethodName)),
  (Jvm.Cond.selects "HistoryJudge$Program" ({ cls := "HistoryJudge$Program", name := "size", desc := "()I" } : Jvm.MethodName) ({ cls := "HistoryJudge$Program", name := "size", desc := "()I" } : Jvm.MethodName)),
  (Jvm.Cond.initialized "HistoryJudge$Program"),
  (Jvm.Cond.code ({ cls := "HistoryJudge$Program", name := "empty", desc := "()V" } : Jvm.MethodName) prog_6_method_10_code (2 : Nat) (Option.none : Option Jvm.ClassFile.FieldType)),
  (Jvm.Cond.methodLink "HistoryJudge" (83 : Nat) ({ cls := "HistoryJudge$Program", name := "empty", desc := "()V" } : Jvm.MethodName)),
  (Jvm.Cond.instanceMethod ({ cls := "HistoryJudge$Program", name := "empty", desc := "()V" } : Jvm.MethodName)),
  (Jvm.Cond.selects "HistoryJudge$Program" ({ cls := "HistoryJudge$Program", name := "empty", desc := "()V" } : Jvm.MethodName) ({ cls := "HistoryJudge$Program", name := "empty", desc := "()V" } : Jvm.MethodName)),
  (Jvm.Cond.fieldLink "HistoryJudge" (37 : Nat) "HistoryJudge" "runIsCurrent" "Z"),
  (Jvm.Cond.fieldLink "HistoryJudge" (16 : Nat) "HistoryJudge" "trial" "LHistoryJudge$Program;"),
  (Jvm.Cond.methodLink "HistoryJudge$Program" (31 : Nat) ({ cls := "HistoryJudge$Program", name := "size", desc := "()I" } : Jvm.MethodName)),
  (Jvm.Cond.fieldLink "HistoryJudge$Program" (15 : Nat) "HistoryJudge$Program" "kinds" "[I"),
  (Jvm.Cond.methodLink "HistoryJudge$Program" (35 : Nat) ({ cls := "java/lang/System", name := "arraycopy", desc := "(Ljava/lang/Object;ILjava/lang/Object;II)V" } : Jvm.MethodName)),
  (Jvm.Cond.native ({ cls := "java/lang/System", name := "arraycopy", desc := "(Ljava/lang/Object;ILjava/lang/Object;II)V" } : Jvm.MethodName)),
  (Jvm.Cond.static ({ cls := "java/lang/System", name := "arraycopy", desc := "(Ljava/lang/Object;ILjava/lang/Object;II)V" } : Jvm.MethodName)),
  (Jvm.Cond.initialized "java/lang/System"),
  (Jvm.Cond.fieldLink "HistoryJudge$Program" (18 : Nat) "HistoryJudge$Program" "cells" "[I"),
  (Jvm.Cond.fieldLink "HistoryJudge$Program" (21 : Nat) "HistoryJudge$Program" "arguments" "[I"),
  (Jvm.Cond.code ({ cls := "HistoryJudge$Program", name := "copyFrom", desc := "(LHistoryJudge$Program;)V" } : Jvm.MethodName) prog_6_method_11_code (3 : Nat) (Option.none : Option Jvm.ClassFile.FieldType)),
  (Jvm.Cond.methodLink "HistoryJudge" (125 : Nat) ({ cls := "HistoryJudge$Program", name := "copyFrom", desc := "(LHistoryJudge$Program;)V" } : Jvm.MethodName)),
  (Jvm.Cond.instanceMethod ({ cls := "HistoryJudge$Program", name := "copyFrom", desc := "(LHistoryJudge$Program;)V" } : Jvm.MethodName)),
  (Jvm.Cond.selects "HistoryJudge$Program" ({ cls := "HistoryJudge$Program", name := "copyFrom", desc := "(LHistoryJudge$Program;)V" } : Jvm.MethodName) ({ cls := "HistoryJudge$Program", name := "copyFrom", desc := "(LHistoryJudge$Program;)V" } : Jvm.MethodName)),
  (Jvm.Cond.code ({ cls := "HistoryJudge$Program", name := "start", desc := "(I)I" } : Jvm.MethodName) prog_6_method_3_code (2 : Nat) (Option.some Jvm.ClassFile.FieldType.int)),
  (Jvm.Cond.methodLink "HistoryJudge$Program" (24 : Nat) ({ cls := "HistoryJudge$Program", name := "start", desc := "(I)I" } : Jvm.MethodName)),
  (Jvm.Cond.instanceMethod ({ cls := "HistoryJudge$Program", name := "start", desc := "(I)I" } : Jvm.MethodName)),
  (Jvm.Cond.selects "HistoryJudge$Program" ({ cls := "HistoryJudge$Program", name := "start", desc := "(I)I" } : Jvm.MethodName) ({ cls := "HistoryJudge$Program", name := "start", desc := "(I)I" } : Jvm.MethodName)),
  (Jvm.Cond.code ({ cls := "HistoryJudge$Program", name := "end", desc := "(I)I" } : Jvm.MethodName) prog_6_method_4_code (2 : Nat) (Option.some Jvm.ClassFile.FieldType.int)),
  (Jvm.Cond.methodLink "HistoryJudge$Program" (28 : Nat) ({ cls := "HistoryJudge$Program", name := "end", desc := "(I)I" } : Jvm.MethodName)),
  (Jvm.Cond.instanceMethod ({ cls := "HistoryJudge$Program", name := "end", desc := "(I)I" } : Jvm.MethodName)),
  (Jvm.Cond.selects "HistoryJudge$Program" ({ cls := "HistoryJudge$Program", name := "end", desc := "(I)I" } : Jvm.MethodName) ({ cls := "HistoryJudge$Program", name := "end", desc := "(I)I" } : Jvm.MethodName)),
  (Jvm.Cond.code ({ cls := "HistoryJudge$Program", name := "put", desc := "(IIII)V" } : Jvm.MethodName) prog_6_method_19_code (5 : Nat) (Option.none : Option Jvm.ClassFile.FieldType)),
  (Jvm.Cond.methodLink "HistoryJudge$Program" (48 : Nat) ({ cls := "HistoryJudge$Program", name := "put", desc := "(IIII)V" } : Jvm.MethodName)),
  (Jvm.Cond.instanceMethod ({ cls := "HistoryJudge$Program", name := "put", desc := "(IIII)V" } : Jvm.MethodName)),
  (Jvm.Cond.selects "HistoryJudge$Program" ({ cls := "HistoryJudge$Program", name := "put", desc := "(IIII)V" } : Jvm.MethodName) ({ cls := "HistoryJudge$Program", name := "put", desc := "(IIII)V" } : Jvm.MethodName)),
  (Jvm.Cond.code ({ cls := "HistoryJudge$Program", name := "shiftUp", desc := "(II)V" } : Jvm.MethodName) prog_6_method_20_code (4 : Nat) (Option.none : Option Jvm.ClassFile.FieldType)),
  (Jvm.Cond.methodLink "HistoryJudge$Program" (41 : Nat) ({ cls := "HistoryJudge$Program", name := "shiftUp", desc := "(II)V" } : Jvm.MethodName)),
  (Jvm.Cond.instanceMethod ({ cls := "HistoryJudge$Program", name := "shiftUp", desc := "(II)V" } : Jvm.MethodName)),
  (Jvm.Cond.selects "HistoryJudge$Program" ({ cls := "HistoryJudge$Program", name := "shiftUp", desc := "(II)V" } : Jvm.MethodName) ({ cls := "HistoryJudge$Program", name := "shiftUp", desc := "(II)V" } : Jvm.MethodName)),
  (Jvm.Cond.code ({ cls := "HistoryJudge$Program", name := "renumber", desc := "(II)V" } : Jvm.MethodName) prog_6_method_21_code (5 : Nat) (Option.none : Option Jvm.ClassFile.FieldType)),
  (Jvm.Cond.methodLink "HistoryJudge$Program" (45 : Nat) ({ cls := "HistoryJudge$Program", name := "renumber", desc := "(II)V" } : Jvm.MethodName)),
  (Jvm.Cond.instanceMethod ({ cls := "HistoryJudge$Program", name := "renumber", desc := "(II)V" } : Jvm.MethodName)),
  (Jvm.Cond.selects "HistoryJudge$Program" ({ cls := "HistoryJudge$Program", name := "renumber", desc := "(II)V" } : Jvm.MethodName) ({ cls := "HistoryJudge$Program", name := "renumber", desc := "(II)V" } : Jvm.MethodName)),
  (Jvm.Cond.code ({ cls := "HistoryJudge$Program", name := "append", desc := "(IIII)V" } : Jvm.MethodName) prog_6_method_12_code (6 : Nat) (Option.none : Option Jvm.ClassFile.FieldType)),
  (Jvm.Cond.methodLink "HistoryJudge" (212 : Nat) ({ cls := "HistoryJudge$Program", name := "append", desc := "(IIII)V" } : Jvm.MethodName)),
  (Jvm.Cond.instanceMethod ({ cls := "HistoryJudge$Program", name := "append", desc := "(IIII)V" } : Jvm.MethodName)),
  (Jvm.Cond.selects "HistoryJudge$Program" ({ cls := "HistoryJudge$Program", name := "append", desc := "(IIII)V" } : Jvm.MethodName) ({ cls := "HistoryJudge$Program", name := "append", desc := "(IIII)V" } : Jvm.MethodName)),
  (Jvm.Cond.code ({ cls := "HistoryJudge$Model", name := "isOpen", desc := "(II)Z" } : Jvm.MethodName) prog_5_method_4_code (2 : Nat) (Option.some Jvm.ClassFile.FieldType.boolean)),
  (Jvm.Cond.methodLink "HistoryJudge$Model" (11 : Nat) ({ cls := "HistoryJudge$Model", name := "isOpen", desc := "(II)Z" } : Jvm.MethodName)),
  (Jvm.Cond.static ({ cls := "HistoryJudge$Model", name := "isOpen", desc := "(II)Z" } : Jvm.MethodName)),
  (Jvm.Cond.initialized "HistoryJudge$Model"),
  (Jvm.Cond.code ({ cls := "HistoryJudge$Model", name := "source", desc := "(I)I" } : Jvm.MethodName) prog_5_method_5_code (1 : Nat) (Option.some Jvm.ClassFile.FieldType.int)),
  (Jvm.Cond.methodLink "HistoryJudge$Model" (15 : Nat) ({ cls := "HistoryJudge$Model", name := "source", desc := "(I)I" } : Jvm.MethodName)),
  (Jvm.Cond.static ({ cls := "HistoryJudge$Model", name := "source", desc := "(I)I" } : Jvm.MethodName)),
  (Jvm.Cond.code ({ cls := "HistoryJudge$Model", name := "allows", desc := "(III)Z" } : Jvm.MethodName) prog_5_method_6_code (3 : Nat) (Option.some Jvm.ClassFile.FieldType.boolean)),
  (Jvm.Cond.methodLink "HistoryJudge$Program" (64 : Nat) ({ cls := "HistoryJudge$Model", name := "allows", desc := "(III)Z" } : Jvm.MethodName)),
  (Jvm.Cond.static ({ cls := "HistoryJudge$Model", name := "allows", desc := "(III)Z" } : Jvm.MethodName)),
  (Jvm.Cond.code ({ cls := "HistoryJudge$Model", name := "content", desc := "(II)I" } : Jvm.MethodName) prog_5_method_2_code (2 : Nat) (Option.some Jvm.ClassFile.FieldType.int))]
def lg_1 : List Jvm.Cond := [(Jvm.Cond.methodLink "HistoryJudge$Model" (23 : Nat) ({ cls := "HistoryJudge$Model", name := "content", desc := "(II)I" } : Jvm.MethodName)),
  (Jvm.Cond.static ({ cls := "HistoryJudge$Model", name := "content", desc := "(II)I" } : Jvm.MethodName)),
  (Jvm.Cond.code ({ cls := "HistoryJudge$Model", name := "held", desc := "(II)I" } : Jvm.MethodName) prog_5_method_3_code (2 : Nat) (Option.some Jvm.ClassFile.FieldType.int)),
  (Jvm.Cond.methodLink "HistoryJudge$Model" (19 : Nat) ({ cls := "HistoryJudge$Model", name := "held", desc := "(II)I" } : Jvm.MethodName)),
  (Jvm.Cond.static ({ cls := "HistoryJudge$Model", name := "held", desc := "(II)I" } : Jvm.MethodName)),
  (Jvm.Cond.code ({ cls := "HistoryJudge$Model", name := "after", desc := "(IIII)I" } : Jvm.MethodName) prog_5_method_8_code (7 : Nat) (Option.some Jvm.ClassFile.FieldType.int)),
  (Jvm.Cond.methodLink "HistoryJudge$Program" (68 : Nat) ({ cls := "HistoryJudge$Model", name := "after", desc := "(IIII)I" } : Jvm.MethodName)),
  (Jvm.Cond.static ({ cls := "HistoryJudge$Model", name := "after", desc := "(IIII)I" } : Jvm.MethodName)),
  (Jvm.Cond.code ({ cls := "HistoryJudge$Program", name := "isValidBeside", desc := "(II)Z" } : Jvm.MethodName) prog_6_method_17_code (6 : Nat) (Option.some Jvm.ClassFile.FieldType.boolean)),
  (Jvm.Cond.methodLink "HistoryJudge$Program" (72 : Nat) ({ cls := "HistoryJudge$Program", name := "isValidBeside", desc := "(II)Z" } : Jvm.MethodName)),
  (Jvm.Cond.instanceMethod ({ cls := "HistoryJudge$Program", name := "isValidBeside", desc := "(II)Z" } : Jvm.MethodName)),
  (Jvm.Cond.selects "HistoryJudge$Program" ({ cls := "HistoryJudge$Program", name := "isValidBeside", desc := "(II)Z" } : Jvm.MethodName) ({ cls := "HistoryJudge$Program", name := "isValidBeside", desc := "(II)Z" } : Jvm.MethodName)),
  (Jvm.Cond.code ({ cls := "HistoryJudge$Program", name := "isValid", desc := "()Z" } : Jvm.MethodName) prog_6_method_16_code (5 : Nat) (Option.some Jvm.ClassFile.FieldType.boolean)),
  (Jvm.Cond.methodLink "HistoryJudge" (121 : Nat) ({ cls := "HistoryJudge$Program", name := "isValid", desc := "()Z" } : Jvm.MethodName)),
  (Jvm.Cond.instanceMethod ({ cls := "HistoryJudge$Program", name := "isValid", desc := "()Z" } : Jvm.MethodName)),
  (Jvm.Cond.selects "HistoryJudge$Program" ({ cls := "HistoryJudge$Program", name := "isValid", desc := "()Z" } : Jvm.MethodName) ({ cls := "HistoryJudge$Program", name := "isValid", desc := "()Z" } : Jvm.MethodName)),
  (Jvm.Cond.fieldLink "HistoryJudge" (29 : Nat) "HistoryJudge" "draws" "LHistoryJudge$Draws;"),
  (Jvm.Cond.fieldLink "HistoryJudge$Draws" (7 : Nat) "HistoryJudge$Draws" "state" "J"),
  (Jvm.Cond.constantLong "HistoryJudge$Draws" (13 : Nat) (6364136223846793005 : Int64)),
  (Jvm.Cond.constantLong "HistoryJudge$Draws" (15 : Nat) (1442695040888963407 : Int64)),
  (Jvm.Cond.code ({ cls := "HistoryJudge$Draws", name := "below", desc := "(I)I" } : Jvm.MethodName) prog_2_method_3_code (3 : Nat) (Option.some Jvm.ClassFile.FieldType.int)),
  (Jvm.Cond.methodLink "HistoryJudge" (219 : Nat) ({ cls := "HistoryJudge$Draws", name := "below", desc := "(I)I" } : Jvm.MethodName)),
  (Jvm.Cond.instanceMethod ({ cls := "HistoryJudge$Draws", name := "below", desc := "(I)I" } : Jvm.MethodName)),
  (Jvm.Cond.selects "HistoryJudge$Draws" ({ cls := "HistoryJudge$Draws", name := "below", desc := "(I)I" } : Jvm.MethodName) ({ cls := "HistoryJudge$Draws", name := "below", desc := "(I)I" } : Jvm.MethodName)),
  (Jvm.Cond.initialized "HistoryJudge$Draws"),
  (Jvm.Cond.code ({ cls := "HistoryJudge$Program", name := "known", desc := "(I)I" } : Jvm.MethodName) prog_6_method_7_code (2 : Nat) (Option.some Jvm.ClassFile.FieldType.int)),
  (Jvm.Cond.methodLink "HistoryJudge" (222 : Nat) ({ cls := "HistoryJudge$Program", name := "known", desc := "(I)I" } : Jvm.MethodName)),
  (Jvm.Cond.instanceMethod ({ cls := "HistoryJudge$Program", name := "known", desc := "(I)I" } : Jvm.MethodName)),
  (Jvm.Cond.selects "HistoryJudge$Program" ({ cls := "HistoryJudge$Program", name := "known", desc := "(I)I" } : Jvm.MethodName) ({ cls := "HistoryJudge$Program", name := "known", desc := "(I)I" } : Jvm.MethodName)),
  (Jvm.Cond.code ({ cls := "HistoryJudge", name := "appendIfValid", desc := "(IIII)Z" } : Jvm.MethodName) prog_1_method_16_code (5 : Nat) (Option.some Jvm.ClassFile.FieldType.boolean)),
  (Jvm.Cond.methodLink "HistoryJudge" (70 : Nat) ({ cls := "HistoryJudge", name := "appendIfValid", desc := "(IIII)Z" } : Jvm.MethodName)),
  (Jvm.Cond.instanceMethod ({ cls := "HistoryJudge", name := "appendIfValid", desc := "(IIII)Z" } : Jvm.MethodName)),
  (Jvm.Cond.selects "HistoryJudge" ({ cls := "HistoryJudge", name := "appendIfValid", desc := "(IIII)Z" } : Jvm.MethodName) ({ cls := "HistoryJudge", name := "appendIfValid", desc := "(IIII)Z" } : Jvm.MethodName)),
  (Jvm.Cond.initialized "HistoryJudge"),
  (Jvm.Cond.code ({ cls := "HistoryJudge$Program", name := "knownAt", desc := "(II)I" } : Jvm.MethodName) prog_6_method_8_code (3 : Nat) (Option.some Jvm.ClassFile.FieldType.int)),
  (Jvm.Cond.methodLink "HistoryJudge" (225 : Nat) ({ cls := "HistoryJudge$Program", name := "knownAt", desc := "(II)I" } : Jvm.MethodName)),
  (Jvm.Cond.instanceMethod ({ cls := "HistoryJudge$Program", name := "knownAt", desc := "(II)I" } : Jvm.MethodName)),
  (Jvm.Cond.selects "HistoryJudge$Program" ({ cls := "HistoryJudge$Program", name := "knownAt", desc := "(II)I" } : Jvm.MethodName) ({ cls := "HistoryJudge$Program", name := "knownAt", desc := "(II)I" } : Jvm.MethodName)),
  (Jvm.Cond.code ({ cls := "HistoryJudge", name := "drawCommand", desc := "(I)Z" } : Jvm.MethodName) prog_1_method_18_code (7 : Nat) (Option.some Jvm.ClassFile.FieldType.boolean)),
  (Jvm.Cond.methodLink "HistoryJudge" (216 : Nat) ({ cls := "HistoryJudge", name := "drawCommand", desc := "(I)Z" } : Jvm.MethodName)),
  (Jvm.Cond.instanceMethod ({ cls := "HistoryJudge", name := "drawCommand", desc := "(I)Z" } : Jvm.MethodName)),
  (Jvm.Cond.selects "HistoryJudge" ({ cls := "HistoryJudge", name := "drawCommand", desc := "(I)Z" } : Jvm.MethodName) ({ cls := "HistoryJudge", name := "drawCommand", desc := "(I)Z" } : Jvm.MethodName)),
  (Jvm.Cond.code ({ cls := "HistoryJudge$Program", name := "lower", desc := "(IZ)Z" } : Jvm.MethodName) prog_6_method_15_code (4 : Nat) (Option.some Jvm.ClassFile.FieldType.boolean)),
  (Jvm.Cond.methodLink "HistoryJudge" (234 : Nat) ({ cls := "HistoryJudge$Program", name := "lower", desc := "(IZ)Z" } : Jvm.MethodName)),
  (Jvm.Cond.instanceMethod ({ cls := "HistoryJudge$Program", name := "lower", desc := "(IZ)Z" } : Jvm.MethodName)),
  (Jvm.Cond.selects "HistoryJudge$Program" ({ cls := "HistoryJudge$Program", name := "lower", desc := "(IZ)Z" } : Jvm.MethodName) ({ cls := "HistoryJudge$Program", name := "lower", desc := "(IZ)Z" } : Jvm.MethodName)),
  (Jvm.Cond.code ({ cls := "HistoryJudge$Program", name := "hasRoom", desc := "(I)Z" } : Jvm.MethodName) prog_6_method_6_code (2 : Nat) (Option.some Jvm.ClassFile.FieldType.boolean)),
  (Jvm.Cond.methodLink "HistoryJudge$Program" (59 : Nat) ({ cls := "HistoryJudge$Program", name := "hasRoom", desc := "(I)Z" } : Jvm.MethodName)),
  (Jvm.Cond.instanceMethod ({ cls := "HistoryJudge$Program", name := "hasRoom", desc := "(I)Z" } : Jvm.MethodName)),
  (Jvm.Cond.selects "HistoryJudge$Program" ({ cls := "HistoryJudge$Program", name := "hasRoom", desc := "(I)Z" } : Jvm.MethodName) ({ cls := "HistoryJudge$Program", name := "hasRoom", desc := "(I)Z" } : Jvm.MethodName)),
  (Jvm.Cond.code ({ cls := "HistoryJudge$Program", name := "promote", desc := "(I)Z" } : Jvm.MethodName) prog_6_method_14_code (10 : Nat) (Option.some Jvm.ClassFile.FieldType.boolean)),
  (Jvm.Cond.methodLink "HistoryJudge" (231 : Nat) ({ cls := "HistoryJudge$Program", name := "promote", desc := "(I)Z" } : Jvm.MethodName)),
  (Jvm.Cond.instanceMethod ({ cls := "HistoryJudge$Program", name := "promote", desc := "(I)Z" } : Jvm.MethodName)),
  (Jvm.Cond.selects "HistoryJudge$Program" ({ cls := "HistoryJudge$Program", name := "promote", desc := "(I)Z" } : Jvm.MethodName) ({ cls := "HistoryJudge$Program", name := "promote", desc := "(I)Z" } : Jvm.MethodName)),
  (Jvm.Cond.code ({ cls := "HistoryJudge$Program", name := "isNeeded", desc := "(I)Z" } : Jvm.MethodName) prog_6_method_18_code (4 : Nat) (Option.some Jvm.ClassFile.FieldType.boolean)),
  (Jvm.Cond.methodLink "HistoryJudge$Program" (52 : Nat) ({ cls := "HistoryJudge$Program", name := "isNeeded", desc := "(I)Z" } : Jvm.MethodName)),
  (Jvm.Cond.instanceMethod ({ cls := "HistoryJudge$Program", name := "isNeeded", desc := "(I)Z" } : Jvm.MethodName)),
  (Jvm.Cond.selects "HistoryJudge$Program" ({ cls := "HistoryJudge$Program", name := "isNeeded", desc := "(I)Z" } : Jvm.MethodName) ({ cls := "HistoryJudge$Program", name := "isNeeded", desc := "(I)Z" } : Jvm.MethodName)),
  (Jvm.Cond.code ({ cls := "HistoryJudge$Program", name := "branchOf", desc := "(I)I" } : Jvm.MethodName) prog_6_method_5_code (2 : Nat) (Option.some Jvm.ClassFile.FieldType.int)),
  (Jvm.Cond.methodLink "HistoryJudge$Program" (56 : Nat) ({ cls := "HistoryJudge$Program", name := "branchOf", desc := "(I)I" } : Jvm.MethodName))]
def lg_2 : List Jvm.Cond := [(Jvm.Cond.instanceMethod ({ cls := "HistoryJudge$Program", name := "branchOf", desc := "(I)I" } : Jvm.MethodName)),
  (Jvm.Cond.selects "HistoryJudge$Program" ({ cls := "HistoryJudge$Program", name := "branchOf", desc := "(I)I" } : Jvm.MethodName) ({ cls := "HistoryJudge$Program", name := "branchOf", desc := "(I)I" } : Jvm.MethodName)),
  (Jvm.Cond.code ({ cls := "HistoryJudge$Program", name := "remove", desc := "(I)Z" } : Jvm.MethodName) prog_6_method_13_code (4 : Nat) (Option.some Jvm.ClassFile.FieldType.boolean)),
  (Jvm.Cond.methodLink "HistoryJudge" (228 : Nat) ({ cls := "HistoryJudge$Program", name := "remove", desc := "(I)Z" } : Jvm.MethodName)),
  (Jvm.Cond.instanceMethod ({ cls := "HistoryJudge$Program", name := "remove", desc := "(I)Z" } : Jvm.MethodName)),
  (Jvm.Cond.selects "HistoryJudge$Program" ({ cls := "HistoryJudge$Program", name := "remove", desc := "(I)Z" } : Jvm.MethodName) ({ cls := "HistoryJudge$Program", name := "remove", desc := "(I)Z" } : Jvm.MethodName)),
  (Jvm.Cond.fieldLink "HistoryJudgeModel" (65 : Nat) "HistoryJudgeModel" "thrown" "I"),
  (Jvm.Cond.fieldLink "HistoryJudgeModel" (7 : Nat) "HistoryJudgeModel" "sizes" "[I"),
  (Jvm.Cond.code ({ cls := "HistoryJudgeModel", name := "branch", desc := "(I)I" } : Jvm.MethodName) prog_9_method_6_code (2 : Nat) (Option.some Jvm.ClassFile.FieldType.int)),
  (Jvm.Cond.methodLink "HistoryJudgeModel" (69 : Nat) ({ cls := "HistoryJudgeModel", name := "branch", desc := "(I)I" } : Jvm.MethodName)),
  (Jvm.Cond.instanceMethod ({ cls := "HistoryJudgeModel", name := "branch", desc := "(I)I" } : Jvm.MethodName)),
  (Jvm.Cond.selects "HistoryJudgeModel" ({ cls := "HistoryJudgeModel", name := "branch", desc := "(I)I" } : Jvm.MethodName) ({ cls := "HistoryJudgeModel", name := "branch", desc := "(I)I" } : Jvm.MethodName)),
  (Jvm.Cond.initialized "HistoryJudgeModel"),
  (Jvm.Cond.code ({ cls := "HistoryJudgeModel", name := "first", desc := "(I)I" } : Jvm.MethodName) prog_9_method_7_code (2 : Nat) (Option.some Jvm.ClassFile.FieldType.int)),
  (Jvm.Cond.methodLink "HistoryJudgeModel" (73 : Nat) ({ cls := "HistoryJudgeModel", name := "first", desc := "(I)I" } : Jvm.MethodName)),
  (Jvm.Cond.instanceMethod ({ cls := "HistoryJudgeModel", name := "first", desc := "(I)I" } : Jvm.MethodName)),
  (Jvm.Cond.selects "HistoryJudgeModel" ({ cls := "HistoryJudgeModel", name := "first", desc := "(I)I" } : Jvm.MethodName) ({ cls := "HistoryJudgeModel", name := "first", desc := "(I)I" } : Jvm.MethodName)),
  (Jvm.Cond.fieldLink "HistoryJudgeModel" (16 : Nat) "HistoryJudgeModel" "cell" "[I"),
  (Jvm.Cond.fieldLink "HistoryJudgeModel" (13 : Nat) "HistoryJudgeModel" "kind" "[I"),
  (Jvm.Cond.fieldLink "HistoryJudgeModel" (31 : Nat) "HistoryJudgeModel" "open" "[Z"),
  (Jvm.Cond.code ({ cls := "HistoryJudgeModel", name := "placed", desc := "(II)I" } : Jvm.MethodName) prog_9_method_9_code (6 : Nat) (Option.some Jvm.ClassFile.FieldType.int)),
  (Jvm.Cond.methodLink "HistoryJudgeModel" (80 : Nat) ({ cls := "HistoryJudgeModel", name := "placed", desc := "(II)I" } : Jvm.MethodName)),
  (Jvm.Cond.instanceMethod ({ cls := "HistoryJudgeModel", name := "placed", desc := "(II)I" } : Jvm.MethodName)),
  (Jvm.Cond.selects "HistoryJudgeModel" ({ cls := "HistoryJudgeModel", name := "placed", desc := "(II)I" } : Jvm.MethodName) ({ cls := "HistoryJudgeModel", name := "placed", desc := "(II)I" } : Jvm.MethodName)),
  (Jvm.Cond.code ({ cls := "HistoryJudgeModel", name := "finds", desc := "(I)Z" } : Jvm.MethodName) prog_9_method_11_code (4 : Nat) (Option.some Jvm.ClassFile.FieldType.boolean)),
  (Jvm.Cond.methodLink "HistoryJudgeModel" (76 : Nat) ({ cls := "HistoryJudgeModel", name := "finds", desc := "(I)Z" } : Jvm.MethodName)),
  (Jvm.Cond.instanceMethod ({ cls := "HistoryJudgeModel", name := "finds", desc := "(I)Z" } : Jvm.MethodName)),
  (Jvm.Cond.selects "HistoryJudgeModel" ({ cls := "HistoryJudgeModel", name := "finds", desc := "(I)Z" } : Jvm.MethodName) ({ cls := "HistoryJudgeModel", name := "finds", desc := "(I)Z" } : Jvm.MethodName)),
  (Jvm.Cond.code ({ cls := "HistoryJudgeModel", name := "many", desc := "()I" } : Jvm.MethodName) prog_9_method_5_code (1 : Nat) (Option.some Jvm.ClassFile.FieldType.int)),
  (Jvm.Cond.methodLink "HistoryJudgeModel" (84 : Nat) ({ cls := "HistoryJudgeModel", name := "many", desc := "()I" } : Jvm.MethodName)),
  (Jvm.Cond.instanceMethod ({ cls := "HistoryJudgeModel", name := "many", desc := "()I" } : Jvm.MethodName)),
  (Jvm.Cond.selects "HistoryJudgeModel" ({ cls := "HistoryJudgeModel", name := "many", desc := "()I" } : Jvm.MethodName) ({ cls := "HistoryJudgeModel", name := "many", desc := "()I" } : Jvm.MethodName)),
  (Jvm.Cond.code ({ cls := "HistoryJudgeModel", name := "isOrder", desc := "(I)Z" } : Jvm.MethodName) prog_9_method_10_code (4 : Nat) (Option.some Jvm.ClassFile.FieldType.boolean)),
  (Jvm.Cond.methodLink "HistoryJudgeModel" (92 : Nat) ({ cls := "HistoryJudgeModel", name := "isOrder", desc := "(I)Z" } : Jvm.MethodName)),
  (Jvm.Cond.instanceMethod ({ cls := "HistoryJudgeModel", name := "isOrder", desc := "(I)Z" } : Jvm.MethodName)),
  (Jvm.Cond.selects "HistoryJudgeModel" ({ cls := "HistoryJudgeModel", name := "isOrder", desc := "(I)Z" } : Jvm.MethodName) ({ cls := "HistoryJudgeModel", name := "isOrder", desc := "(I)Z" } : Jvm.MethodName)),
  (Jvm.Cond.code ({ cls := "HistoryJudgeModel", name := "fits", desc := "(I)Z" } : Jvm.MethodName) prog_9_method_12_code (4 : Nat) (Option.some Jvm.ClassFile.FieldType.boolean)),
  (Jvm.Cond.methodLink "HistoryJudgeModel" (95 : Nat) ({ cls := "HistoryJudgeModel", name := "fits", desc := "(I)Z" } : Jvm.MethodName)),
  (Jvm.Cond.instanceMethod ({ cls := "HistoryJudgeModel", name := "fits", desc := "(I)Z" } : Jvm.MethodName)),
  (Jvm.Cond.selects "HistoryJudgeModel" ({ cls := "HistoryJudgeModel", name := "fits", desc := "(I)Z" } : Jvm.MethodName) ({ cls := "HistoryJudgeModel", name := "fits", desc := "(I)Z" } : Jvm.MethodName)),
  (Jvm.Cond.fieldLink "HistoryJudgeModel" (19 : Nat) "HistoryJudgeModel" "argument" "[I"),
  (Jvm.Cond.code ({ cls := "HistoryJudgeModel", name := "mayStand", desc := "(III)Z" } : Jvm.MethodName) prog_9_method_8_code (4 : Nat) (Option.some Jvm.ClassFile.FieldType.boolean)),
  (Jvm.Cond.methodLink "HistoryJudgeModel" (88 : Nat) ({ cls := "HistoryJudgeModel", name := "mayStand", desc := "(III)Z" } : Jvm.MethodName)),
  (Jvm.Cond.instanceMethod ({ cls := "HistoryJudgeModel", name := "mayStand", desc := "(III)Z" } : Jvm.MethodName)),
  (Jvm.Cond.selects "HistoryJudgeModel" ({ cls := "HistoryJudgeModel", name := "mayStand", desc := "(III)Z" } : Jvm.MethodName) ({ cls := "HistoryJudgeModel", name := "mayStand", desc := "(III)Z" } : Jvm.MethodName)),
  (Jvm.Cond.fieldLink "HistoryJudgeModel" (25 : Nat) "HistoryJudgeModel" "kept" "[I"),
  (Jvm.Cond.fieldLink "HistoryJudgeModel" (22 : Nat) "HistoryJudgeModel" "keptSizes" "[I"),
  (Jvm.Cond.code ({ cls := "HistoryJudgeModel", name := "copy", desc := "(II)V" } : Jvm.MethodName) prog_9_method_16_code (3 : Nat) (Option.none : Option Jvm.ClassFile.FieldType)),
  (Jvm.Cond.methodLink "HistoryJudgeModel" (98 : Nat) ({ cls := "HistoryJudgeModel", name := "copy", desc := "(II)V" } : Jvm.MethodName)),
  (Jvm.Cond.instanceMethod ({ cls := "HistoryJudgeModel", name := "copy", desc := "(II)V" } : Jvm.MethodName)),
  (Jvm.Cond.selects "HistoryJudgeModel" ({ cls := "HistoryJudgeModel", name := "copy", desc := "(II)V" } : Jvm.MethodName) ({ cls := "HistoryJudgeModel", name := "copy", desc := "(II)V" } : Jvm.MethodName)),
  (Jvm.Cond.code ({ cls := "HistoryJudgeModel", name := "within", desc := "(III)Z" } : Jvm.MethodName) prog_9_method_4_code (3 : Nat) (Option.some Jvm.ClassFile.FieldType.boolean)),
  (Jvm.Cond.methodLink "HistoryJudgeModel" (102 : Nat) ({ cls := "HistoryJudgeModel", name := "within", desc := "(III)Z" } : Jvm.MethodName)),
  (Jvm.Cond.static ({ cls := "HistoryJudgeModel", name := "within", desc := "(III)Z" } : Jvm.MethodName)),
  (Jvm.Cond.code ({ cls := "HistoryJudgeModel", name := "fail", desc := "(I)I" } : Jvm.MethodName) prog_9_method_3_code (2 : Nat) (Option.some Jvm.ClassFile.FieldType.int)),
  (Jvm.Cond.methodLink "HistoryJudgeModel" (105 : Nat) ({ cls := "HistoryJudgeModel", name := "fail", desc := "(I)I" } : Jvm.MethodName)),
  (Jvm.Cond.instanceMethod ({ cls := "HistoryJudgeModel", name := "fail", desc := "(I)I" } : Jvm.MethodName)),
  (Jvm.Cond.selects "HistoryJudgeModel" ({ cls := "HistoryJudgeModel", name := "fail", desc := "(I)I" } : Jvm.MethodName) ({ cls := "HistoryJudgeModel", name := "fail", desc := "(I)I" } : Jvm.MethodName)),
  (Jvm.Cond.code ({ cls := "HistoryJudgeModel", name := "keep", desc := "()V" } : Jvm.MethodName) prog_9_method_14_code (2 : Nat) (Option.none : Option Jvm.ClassFile.FieldType)),
  (Jvm.Cond.methodLink "HistoryJudgeModel" (108 : Nat) ({ cls := "HistoryJudgeModel", name := "keep", desc := "()V" } : Jvm.MethodName))]
def lg_3 : List Jvm.Cond := [(Jvm.Cond.instanceMethod ({ cls := "HistoryJudgeModel", name := "keep", desc := "()V" } : Jvm.MethodName)),
  (Jvm.Cond.selects "HistoryJudgeModel" ({ cls := "HistoryJudgeModel", name := "keep", desc := "()V" } : Jvm.MethodName) ({ cls := "HistoryJudgeModel", name := "keep", desc := "()V" } : Jvm.MethodName)),
  (Jvm.Cond.code ({ cls := "HistoryJudgeModel", name := "insert", desc := "(IIII)I" } : Jvm.MethodName) prog_9_method_17_code (7 : Nat) (Option.some Jvm.ClassFile.FieldType.int)),
  (Jvm.Cond.methodLink "HistoryJudgeModel" (111 : Nat) ({ cls := "HistoryJudgeModel", name := "insert", desc := "(IIII)I" } : Jvm.MethodName)),
  (Jvm.Cond.instanceMethod ({ cls := "HistoryJudgeModel", name := "insert", desc := "(IIII)I" } : Jvm.MethodName)),
  (Jvm.Cond.selects "HistoryJudgeModel" ({ cls := "HistoryJudgeModel", name := "insert", desc := "(IIII)I" } : Jvm.MethodName) ({ cls := "HistoryJudgeModel", name := "insert", desc := "(IIII)I" } : Jvm.MethodName)),
  (Jvm.Cond.code ({ cls := "HistoryJudgeModel", name := "valid", desc := "()Z" } : Jvm.MethodName) prog_9_method_13_code (4 : Nat) (Option.some Jvm.ClassFile.FieldType.boolean)),
  (Jvm.Cond.methodLink "HistoryJudgeModel" (115 : Nat) ({ cls := "HistoryJudgeModel", name := "valid", desc := "()Z" } : Jvm.MethodName)),
  (Jvm.Cond.instanceMethod ({ cls := "HistoryJudgeModel", name := "valid", desc := "()Z" } : Jvm.MethodName)),
  (Jvm.Cond.selects "HistoryJudgeModel" ({ cls := "HistoryJudgeModel", name := "valid", desc := "()Z" } : Jvm.MethodName) ({ cls := "HistoryJudgeModel", name := "valid", desc := "()Z" } : Jvm.MethodName)),
  (Jvm.Cond.fieldLink "HistoryJudgeModel" (122 : Nat) "HistoryJudgeModel" "ran" "Z"),
  (Jvm.Cond.code ({ cls := "HistoryJudgeModel", name := "putBack", desc := "()V" } : Jvm.MethodName) prog_9_method_15_code (2 : Nat) (Option.none : Option Jvm.ClassFile.FieldType)),
  (Jvm.Cond.methodLink "HistoryJudgeModel" (119 : Nat) ({ cls := "HistoryJudgeModel", name := "putBack", desc := "()V" } : Jvm.MethodName)),
  (Jvm.Cond.instanceMethod ({ cls := "HistoryJudgeModel", name := "putBack", desc := "()V" } : Jvm.MethodName)),
  (Jvm.Cond.selects "HistoryJudgeModel" ({ cls := "HistoryJudgeModel", name := "putBack", desc := "()V" } : Jvm.MethodName) ({ cls := "HistoryJudgeModel", name := "putBack", desc := "()V" } : Jvm.MethodName)),
  (Jvm.Cond.fieldLink "HistoryJudgeModel" (126 : Nat) "HistoryJudgeModel" "g" "J"),
  (Jvm.Cond.constantLong "HistoryJudgeModel" (130 : Nat) (6364136223846793005 : Int64)),
  (Jvm.Cond.constantLong "HistoryJudgeModel" (132 : Nat) (1442695040888963407 : Int64)),
  (Jvm.Cond.code ({ cls := "HistoryJudgeModel", name := "drawn", desc := "(I)I" } : Jvm.MethodName) prog_9_method_22_code (2 : Nat) (Option.some Jvm.ClassFile.FieldType.int)),
  (Jvm.Cond.methodLink "HistoryJudgeModel" (134 : Nat) ({ cls := "HistoryJudgeModel", name := "drawn", desc := "(I)I" } : Jvm.MethodName)),
  (Jvm.Cond.instanceMethod ({ cls := "HistoryJudgeModel", name := "drawn", desc := "(I)I" } : Jvm.MethodName)),
  (Jvm.Cond.selects "HistoryJudgeModel" ({ cls := "HistoryJudgeModel", name := "drawn", desc := "(I)I" } : Jvm.MethodName) ({ cls := "HistoryJudgeModel", name := "drawn", desc := "(I)I" } : Jvm.MethodName)),
  (Jvm.Cond.code ({ cls := "HistoryJudgeModel", name := "before", desc := "(III)I" } : Jvm.MethodName) prog_9_method_24_code (6 : Nat) (Option.some Jvm.ClassFile.FieldType.int)),
  (Jvm.Cond.methodLink "HistoryJudgeModel" (137 : Nat) ({ cls := "HistoryJudgeModel", name := "before", desc := "(III)I" } : Jvm.MethodName)),
  (Jvm.Cond.instanceMethod ({ cls := "HistoryJudgeModel", name := "before", desc := "(III)I" } : Jvm.MethodName)),
  (Jvm.Cond.selects "HistoryJudgeModel" ({ cls := "HistoryJudgeModel", name := "before", desc := "(III)I" } : Jvm.MethodName) ({ cls := "HistoryJudgeModel", name := "before", desc := "(III)I" } : Jvm.MethodName)),
  (Jvm.Cond.code ({ cls := "HistoryJudgeModel", name := "clear", desc := "()I" } : Jvm.MethodName) prog_9_method_21_code (3 : Nat) (Option.some Jvm.ClassFile.FieldType.int)),
  (Jvm.Cond.methodLink "HistoryJudgeModel" (141 : Nat) ({ cls := "HistoryJudgeModel", name := "clear", desc := "()I" } : Jvm.MethodName)),
  (Jvm.Cond.instanceMethod ({ cls := "HistoryJudgeModel", name := "clear", desc := "()I" } : Jvm.MethodName)),
  (Jvm.Cond.selects "HistoryJudgeModel" ({ cls := "HistoryJudgeModel", name := "clear", desc := "()I" } : Jvm.MethodName) ({ cls := "HistoryJudgeModel", name := "clear", desc := "()I" } : Jvm.MethodName)),
  (Jvm.Cond.code ({ cls := "HistoryJudgeModel", name := "tried", desc := "(I)V" } : Jvm.MethodName) prog_9_method_23_code (12 : Nat) (Option.none : Option Jvm.ClassFile.FieldType)),
  (Jvm.Cond.methodLink "HistoryJudgeModel" (144 : Nat) ({ cls := "HistoryJudgeModel", name := "tried", desc := "(I)V" } : Jvm.MethodName)),
  (Jvm.Cond.instanceMethod ({ cls := "HistoryJudgeModel", name := "tried", desc := "(I)V" } : Jvm.MethodName)),
  (Jvm.Cond.selects "HistoryJudgeModel" ({ cls := "HistoryJudgeModel", name := "tried", desc := "(I)V" } : Jvm.MethodName) ({ cls := "HistoryJudgeModel", name := "tried", desc := "(I)V" } : Jvm.MethodName)),
  (Jvm.Cond.fieldLink "HistoryJudgeModel" (148 : Nat) "HistoryJudgeModel" "flaws" "I"),
  (Jvm.Cond.fieldLink "HistoryJudgeModel" (44 : Nat) "HistoryJudgeModel" "number" "[I"),
  (Jvm.Cond.fieldLink "HistoryJudgeModel" (53 : Nat) "HistoryJudgeModel" "noted" "[I"),
  (Jvm.Cond.fieldLink "HistoryJudgeModel" (41 : Nat) "HistoryJudgeModel" "answer" "[I"),
  (Jvm.Cond.fieldLink "HistoryJudgeModel" (35 : Nat) "HistoryJudgeModel" "has" "[I"),
  (Jvm.Cond.fieldLink "HistoryJudgeModel" (38 : Nat) "HistoryJudgeModel" "isOpen" "[Z"),
  (Jvm.Cond.code ({ cls := "HistoryJudgeModel", name := "isLate", desc := "(I)Z" } : Jvm.MethodName) prog_9_method_28_code (2 : Nat) (Option.some Jvm.ClassFile.FieldType.boolean)),
  (Jvm.Cond.methodLink "HistoryJudgeModel" (151 : Nat) ({ cls := "HistoryJudgeModel", name := "isLate", desc := "(I)Z" } : Jvm.MethodName)),
  (Jvm.Cond.instanceMethod ({ cls := "HistoryJudgeModel", name := "isLate", desc := "(I)Z" } : Jvm.MethodName)),
  (Jvm.Cond.selects "HistoryJudgeModel" ({ cls := "HistoryJudgeModel", name := "isLate", desc := "(I)Z" } : Jvm.MethodName) ({ cls := "HistoryJudgeModel", name := "isLate", desc := "(I)Z" } : Jvm.MethodName)),
  (Jvm.Cond.code ({ cls := "HistoryJudgeModel", name := "twoParts", desc := "(I)Z" } : Jvm.MethodName) prog_9_method_27_code (2 : Nat) (Option.some Jvm.ClassFile.FieldType.boolean)),
  (Jvm.Cond.methodLink "HistoryJudgeModel" (154 : Nat) ({ cls := "HistoryJudgeModel", name := "twoParts", desc := "(I)Z" } : Jvm.MethodName)),
  (Jvm.Cond.instanceMethod ({ cls := "HistoryJudgeModel", name := "twoParts", desc := "(I)Z" } : Jvm.MethodName)),
  (Jvm.Cond.selects "HistoryJudgeModel" ({ cls := "HistoryJudgeModel", name := "twoParts", desc := "(I)Z" } : Jvm.MethodName) ({ cls := "HistoryJudgeModel", name := "twoParts", desc := "(I)Z" } : Jvm.MethodName)),
  (Jvm.Cond.fieldLink "HistoryJudgeModel" (50 : Nat) "HistoryJudgeModel" "back" "[I"),
  (Jvm.Cond.code ({ cls := "HistoryJudgeModel", name := "does", desc := "(I)V" } : Jvm.MethodName) prog_9_method_30_code (5 : Nat) (Option.none : Option Jvm.ClassFile.FieldType)),
  (Jvm.Cond.methodLink "HistoryJudgeModel" (163 : Nat) ({ cls := "HistoryJudgeModel", name := "does", desc := "(I)V" } : Jvm.MethodName)),
  (Jvm.Cond.instanceMethod ({ cls := "HistoryJudgeModel", name := "does", desc := "(I)V" } : Jvm.MethodName)),
  (Jvm.Cond.selects "HistoryJudgeModel" ({ cls := "HistoryJudgeModel", name := "does", desc := "(I)V" } : Jvm.MethodName) ({ cls := "HistoryJudgeModel", name := "does", desc := "(I)V" } : Jvm.MethodName)),
  (Jvm.Cond.code ({ cls := "HistoryJudgeModel", name := "source", desc := "(I)I" } : Jvm.MethodName) prog_9_method_29_code (2 : Nat) (Option.some Jvm.ClassFile.FieldType.int)),
  (Jvm.Cond.methodLink "HistoryJudgeModel" (160 : Nat) ({ cls := "HistoryJudgeModel", name := "source", desc := "(I)I" } : Jvm.MethodName)),
  (Jvm.Cond.instanceMethod ({ cls := "HistoryJudgeModel", name := "source", desc := "(I)I" } : Jvm.MethodName)),
  (Jvm.Cond.selects "HistoryJudgeModel" ({ cls := "HistoryJudgeModel", name := "source", desc := "(I)I" } : Jvm.MethodName) ({ cls := "HistoryJudgeModel", name := "source", desc := "(I)I" } : Jvm.MethodName)),
  (Jvm.Cond.code ({ cls := "HistoryJudgeModel", name := "calls", desc := "(I)V" } : Jvm.MethodName) prog_9_method_31_code (2 : Nat) (Option.none : Option Jvm.ClassFile.FieldType)),
  (Jvm.Cond.methodLink "HistoryJudgeModel" (157 : Nat) ({ cls := "HistoryJudgeModel", name := "calls", desc := "(I)V" } : Jvm.MethodName)),
  (Jvm.Cond.instanceMethod ({ cls := "HistoryJudgeModel", name := "calls", desc := "(I)V" } : Jvm.MethodName))]
def lg_4 : List Jvm.Cond := [(Jvm.Cond.selects "HistoryJudgeModel" ({ cls := "HistoryJudgeModel", name := "calls", desc := "(I)V" } : Jvm.MethodName) ({ cls := "HistoryJudgeModel", name := "calls", desc := "(I)V" } : Jvm.MethodName)),
  (Jvm.Cond.fieldLink "HistoryJudgeModel" (47 : Nat) "HistoryJudgeModel" "call" "[I"),
  (Jvm.Cond.fieldLink "HistoryJudgeModel" (56 : Nat) "HistoryJudgeModel" "at" "[I"),
  (Jvm.Cond.code ({ cls := "HistoryJudgeModel", name := "hasLeft", desc := "(I)Z" } : Jvm.MethodName) prog_9_method_34_code (2 : Nat) (Option.some Jvm.ClassFile.FieldType.boolean)),
  (Jvm.Cond.methodLink "HistoryJudgeModel" (173 : Nat) ({ cls := "HistoryJudgeModel", name := "hasLeft", desc := "(I)Z" } : Jvm.MethodName)),
  (Jvm.Cond.instanceMethod ({ cls := "HistoryJudgeModel", name := "hasLeft", desc := "(I)Z" } : Jvm.MethodName)),
  (Jvm.Cond.selects "HistoryJudgeModel" ({ cls := "HistoryJudgeModel", name := "hasLeft", desc := "(I)Z" } : Jvm.MethodName) ({ cls := "HistoryJudgeModel", name := "hasLeft", desc := "(I)Z" } : Jvm.MethodName)),
  (Jvm.Cond.fieldLink "HistoryJudgeModel" (59 : Nat) "HistoryJudgeModel" "event" "[I"),
  (Jvm.Cond.code ({ cls := "HistoryJudgeModel", name := "happens", desc := "(III)V" } : Jvm.MethodName) prog_9_method_33_code (5 : Nat) (Option.none : Option Jvm.ClassFile.FieldType)),
  (Jvm.Cond.methodLink "HistoryJudgeModel" (169 : Nat) ({ cls := "HistoryJudgeModel", name := "happens", desc := "(III)V" } : Jvm.MethodName)),
  (Jvm.Cond.instanceMethod ({ cls := "HistoryJudgeModel", name := "happens", desc := "(III)V" } : Jvm.MethodName)),
  (Jvm.Cond.selects "HistoryJudgeModel" ({ cls := "HistoryJudgeModel", name := "happens", desc := "(III)V" } : Jvm.MethodName) ({ cls := "HistoryJudgeModel", name := "happens", desc := "(III)V" } : Jvm.MethodName)),
  (Jvm.Cond.code ({ cls := "HistoryJudgeModel", name := "events", desc := "(I)I" } : Jvm.MethodName) prog_9_method_32_code (2 : Nat) (Option.some Jvm.ClassFile.FieldType.int)),
  (Jvm.Cond.methodLink "HistoryJudgeModel" (166 : Nat) ({ cls := "HistoryJudgeModel", name := "events", desc := "(I)I" } : Jvm.MethodName)),
  (Jvm.Cond.instanceMethod ({ cls := "HistoryJudgeModel", name := "events", desc := "(I)I" } : Jvm.MethodName)),
  (Jvm.Cond.selects "HistoryJudgeModel" ({ cls := "HistoryJudgeModel", name := "events", desc := "(I)I" } : Jvm.MethodName) ({ cls := "HistoryJudgeModel", name := "events", desc := "(I)I" } : Jvm.MethodName)),
  (Jvm.Cond.fieldLink "HistoryJudgeModel" (28 : Nat) "HistoryJudgeModel" "holds" "[I"),
  (Jvm.Cond.code ({ cls := "HistoryJudgeModel", name := "right", desc := "(I)I" } : Jvm.MethodName) prog_9_method_36_code (5 : Nat) (Option.some Jvm.ClassFile.FieldType.int)),
  (Jvm.Cond.methodLink "HistoryJudgeModel" (176 : Nat) ({ cls := "HistoryJudgeModel", name := "right", desc := "(I)I" } : Jvm.MethodName)),
  (Jvm.Cond.instanceMethod ({ cls := "HistoryJudgeModel", name := "right", desc := "(I)I" } : Jvm.MethodName)),
  (Jvm.Cond.selects "HistoryJudgeModel" ({ cls := "HistoryJudgeModel", name := "right", desc := "(I)I" } : Jvm.MethodName) ({ cls := "HistoryJudgeModel", name := "right", desc := "(I)I" } : Jvm.MethodName)),
  (Jvm.Cond.code ({ cls := "HistoryJudgeModel", name := "go", desc := "(I)V" } : Jvm.MethodName) prog_9_method_35_code (4 : Nat) (Option.none : Option Jvm.ClassFile.FieldType)),
  (Jvm.Cond.methodLink "HistoryJudgeModel" (179 : Nat) ({ cls := "HistoryJudgeModel", name := "go", desc := "(I)V" } : Jvm.MethodName)),
  (Jvm.Cond.instanceMethod ({ cls := "HistoryJudgeModel", name := "go", desc := "(I)V" } : Jvm.MethodName)),
  (Jvm.Cond.selects "HistoryJudgeModel" ({ cls := "HistoryJudgeModel", name := "go", desc := "(I)V" } : Jvm.MethodName) ({ cls := "HistoryJudgeModel", name := "go", desc := "(I)V" } : Jvm.MethodName)),
  (Jvm.Cond.fieldLink "HistoryJudgeModel" (182 : Nat) "HistoryJudgeModel" "runs" "I"),
  (Jvm.Cond.fieldLink "HistoryJudgeModel" (185 : Nat) "HistoryJudgeModel" "explained" "Z"),
  (Jvm.Cond.fieldLink "HistoryJudgeModel" (194 : Nat) "HistoryJudgeModel" "wrong" "I"),
  (Jvm.Cond.fieldLink "HistoryJudgeModel" (191 : Nat) "HistoryJudgeModel" "witness" "I"),
  (Jvm.Cond.code ({ cls := "HistoryJudgeModel", name := "explains", desc := "(I)Z" } : Jvm.MethodName) prog_9_method_37_code (7 : Nat) (Option.some Jvm.ClassFile.FieldType.boolean)),
  (Jvm.Cond.methodLink "HistoryJudgeModel" (188 : Nat) ({ cls := "HistoryJudgeModel", name := "explains", desc := "(I)Z" } : Jvm.MethodName)),
  (Jvm.Cond.instanceMethod ({ cls := "HistoryJudgeModel", name := "explains", desc := "(I)Z" } : Jvm.MethodName)),
  (Jvm.Cond.selects "HistoryJudgeModel" ({ cls := "HistoryJudgeModel", name := "explains", desc := "(I)Z" } : Jvm.MethodName) ({ cls := "HistoryJudgeModel", name := "explains", desc := "(I)Z" } : Jvm.MethodName)),
  (Jvm.Cond.fieldLink "HistoryJudgeModel" (62 : Nat) "HistoryJudgeModel" "tallies" "[I"),
  (Jvm.Cond.code ({ cls := "HistoryJudgeModel", name := "judged", desc := "(I)Z" } : Jvm.MethodName) prog_9_method_38_code (4 : Nat) (Option.some Jvm.ClassFile.FieldType.boolean)),
  (Jvm.Cond.methodLink "HistoryJudgeModel" (197 : Nat) ({ cls := "HistoryJudgeModel", name := "judged", desc := "(I)Z" } : Jvm.MethodName)),
  (Jvm.Cond.instanceMethod ({ cls := "HistoryJudgeModel", name := "judged", desc := "(I)Z" } : Jvm.MethodName)),
  (Jvm.Cond.selects "HistoryJudgeModel" ({ cls := "HistoryJudgeModel", name := "judged", desc := "(I)Z" } : Jvm.MethodName) ({ cls := "HistoryJudgeModel", name := "judged", desc := "(I)Z" } : Jvm.MethodName)),
  (Jvm.Cond.constant "HistoryJudgeModel" (200 : Nat) (2147483647 : Int32)),
  (Jvm.Cond.fieldLink "HistoryJudgeModel" (201 : Nat) "HistoryJudgeModel" "failing" "I"),
  (Jvm.Cond.code ({ cls := "HistoryJudgeModel", name := "failed", desc := "(JI)I" } : Jvm.MethodName) prog_9_method_40_code (6 : Nat) (Option.some Jvm.ClassFile.FieldType.int)),
  (Jvm.Cond.methodLink "HistoryJudgeModel" (204 : Nat) ({ cls := "HistoryJudgeModel", name := "failed", desc := "(JI)I" } : Jvm.MethodName)),
  (Jvm.Cond.instanceMethod ({ cls := "HistoryJudgeModel", name := "failed", desc := "(JI)I" } : Jvm.MethodName)),
  (Jvm.Cond.selects "HistoryJudgeModel" ({ cls := "HistoryJudgeModel", name := "failed", desc := "(JI)I" } : Jvm.MethodName) ({ cls := "HistoryJudgeModel", name := "failed", desc := "(JI)I" } : Jvm.MethodName)),
  (Jvm.Cond.code ({ cls := "HistoryJudgeModel", name := "takes", desc := "(ZJI)Z" } : Jvm.MethodName) prog_9_method_42_code (5 : Nat) (Option.some Jvm.ClassFile.FieldType.boolean)),
  (Jvm.Cond.methodLink "HistoryJudgeModel" (211 : Nat) ({ cls := "HistoryJudgeModel", name := "takes", desc := "(ZJI)Z" } : Jvm.MethodName)),
  (Jvm.Cond.instanceMethod ({ cls := "HistoryJudgeModel", name := "takes", desc := "(ZJI)Z" } : Jvm.MethodName)),
  (Jvm.Cond.selects "HistoryJudgeModel" ({ cls := "HistoryJudgeModel", name := "takes", desc := "(ZJI)Z" } : Jvm.MethodName) ({ cls := "HistoryJudgeModel", name := "takes", desc := "(ZJI)Z" } : Jvm.MethodName)),
  (Jvm.Cond.code ({ cls := "HistoryJudgeModel", name := "raise", desc := "(I)V" } : Jvm.MethodName) prog_9_method_19_code (9 : Nat) (Option.none : Option Jvm.ClassFile.FieldType)),
  (Jvm.Cond.methodLink "HistoryJudgeModel" (215 : Nat) ({ cls := "HistoryJudgeModel", name := "raise", desc := "(I)V" } : Jvm.MethodName)),
  (Jvm.Cond.instanceMethod ({ cls := "HistoryJudgeModel", name := "raise", desc := "(I)V" } : Jvm.MethodName)),
  (Jvm.Cond.selects "HistoryJudgeModel" ({ cls := "HistoryJudgeModel", name := "raise", desc := "(I)V" } : Jvm.MethodName) ({ cls := "HistoryJudgeModel", name := "raise", desc := "(I)V" } : Jvm.MethodName)),
  (Jvm.Cond.code ({ cls := "HistoryJudgeModel", name := "leaveOut", desc := "(I)Z" } : Jvm.MethodName) prog_9_method_18_code (4 : Nat) (Option.some Jvm.ClassFile.FieldType.boolean)),
  (Jvm.Cond.methodLink "HistoryJudgeModel" (208 : Nat) ({ cls := "HistoryJudgeModel", name := "leaveOut", desc := "(I)Z" } : Jvm.MethodName)),
  (Jvm.Cond.instanceMethod ({ cls := "HistoryJudgeModel", name := "leaveOut", desc := "(I)Z" } : Jvm.MethodName)),
  (Jvm.Cond.selects "HistoryJudgeModel" ({ cls := "HistoryJudgeModel", name := "leaveOut", desc := "(I)Z" } : Jvm.MethodName) ({ cls := "HistoryJudgeModel", name := "leaveOut", desc := "(I)Z" } : Jvm.MethodName)),
  (Jvm.Cond.code ({ cls := "HistoryJudgeModel", name := "smaller", desc := "(JI)Z" } : Jvm.MethodName) prog_9_method_43_code (7 : Nat) (Option.some Jvm.ClassFile.FieldType.boolean)),
  (Jvm.Cond.methodLink "HistoryJudgeModel" (218 : Nat) ({ cls := "HistoryJudgeModel", name := "smaller", desc := "(JI)Z" } : Jvm.MethodName)),
  (Jvm.Cond.instanceMethod ({ cls := "HistoryJudgeModel", name := "smaller", desc := "(JI)Z" } : Jvm.MethodName)),
  (Jvm.Cond.selects "HistoryJudgeModel" ({ cls := "HistoryJudgeModel", name := "smaller", desc := "(JI)Z" } : Jvm.MethodName) ({ cls := "HistoryJudgeModel", name := "smaller", desc := "(JI)Z" } : Jvm.MethodName))]
def lg_5 : List Jvm.Cond := [(Jvm.Cond.fieldLink "HistoryJudgeModel" (222 : Nat) "HistoryJudgeModel" "taken" "I"),
  (Jvm.Cond.fieldLink "HistoryJudge$Tester" (39 : Nat) "HistoryJudge$Tester" "schedule" "I"),
  (Jvm.Cond.fieldLink "HistoryJudge$Tester" (12 : Nat) "HistoryJudge$Tester" "machine" "LHistoryJudge$Machine;"),
  (Jvm.Cond.fieldLink "HistoryJudge$Tester" (29 : Nat) "HistoryJudge$Tester" "flawBits" "I"),
  (Jvm.Cond.fieldLink "HistoryJudge$Machine" (39 : Nat) "HistoryJudge$Machine" "flawBits" "I"),
  (Jvm.Cond.fieldLink "HistoryJudge$Machine" (26 : Nat) "HistoryJudge$Machine" "cells" "I"),
  (Jvm.Cond.methodLink "HistoryJudge$Machine" (48 : Nat) ({ cls := "HistoryJudge$Program", name := "end", desc := "(I)I" } : Jvm.MethodName)),
  (Jvm.Cond.fieldLink "HistoryJudge$Machine" (30 : Nat) "HistoryJudge$Machine" "nextCommand" "[I"),
  (Jvm.Cond.fieldLink "HistoryJudge$Machine" (55 : Nat) "HistoryJudge$Program" "kinds" "[I"),
  (Jvm.Cond.fieldLink "HistoryJudge$Machine" (58 : Nat) "HistoryJudge$Program" "cells" "[I"),
  (Jvm.Cond.fieldLink "HistoryJudge$Machine" (33 : Nat) "HistoryJudge$Machine" "nextEvent" "[I"),
  (Jvm.Cond.fieldLink "HistoryJudge$Machine" (18 : Nat) "HistoryJudge$Machine" "calls" "[I"),
  (Jvm.Cond.fieldLink "HistoryJudge$Machine" (15 : Nat) "HistoryJudge$Machine" "numbers" "[I"),
  (Jvm.Cond.fieldLink "HistoryJudge$Machine" (60 : Nat) "HistoryJudge$Program" "arguments" "[I"),
  (Jvm.Cond.fieldLink "HistoryJudge$Machine" (9 : Nat) "HistoryJudge$Machine" "answers" "[I"),
  (Jvm.Cond.code ({ cls := "HistoryJudge$Machine", name := "numberOf", desc := "(I)I" } : Jvm.MethodName) prog_4_method_4_code (2 : Nat) (Option.some Jvm.ClassFile.FieldType.int)),
  (Jvm.Cond.methodLink "HistoryJudge$Machine" (63 : Nat) ({ cls := "HistoryJudge$Machine", name := "numberOf", desc := "(I)I" } : Jvm.MethodName)),
  (Jvm.Cond.instanceMethod ({ cls := "HistoryJudge$Machine", name := "numberOf", desc := "(I)I" } : Jvm.MethodName)),
  (Jvm.Cond.selects "HistoryJudge$Machine" ({ cls := "HistoryJudge$Machine", name := "numberOf", desc := "(I)I" } : Jvm.MethodName) ({ cls := "HistoryJudge$Machine", name := "numberOf", desc := "(I)I" } : Jvm.MethodName)),
  (Jvm.Cond.initialized "HistoryJudge$Machine"),
  (Jvm.Cond.code ({ cls := "HistoryJudge$Machine", name := "isSplit", desc := "(I)Z" } : Jvm.MethodName) prog_4_method_5_code (2 : Nat) (Option.some Jvm.ClassFile.FieldType.boolean)),
  (Jvm.Cond.methodLink "HistoryJudge$Machine" (66 : Nat) ({ cls := "HistoryJudge$Machine", name := "isSplit", desc := "(I)Z" } : Jvm.MethodName)),
  (Jvm.Cond.instanceMethod ({ cls := "HistoryJudge$Machine", name := "isSplit", desc := "(I)Z" } : Jvm.MethodName)),
  (Jvm.Cond.selects "HistoryJudge$Machine" ({ cls := "HistoryJudge$Machine", name := "isSplit", desc := "(I)Z" } : Jvm.MethodName) ({ cls := "HistoryJudge$Machine", name := "isSplit", desc := "(I)Z" } : Jvm.MethodName)),
  (Jvm.Cond.fieldLink "HistoryJudge$Machine" (36 : Nat) "HistoryJudge$Machine" "noted" "[I"),
  (Jvm.Cond.methodLink "HistoryJudge$Machine" (73 : Nat) ({ cls := "HistoryJudge$Model", name := "held", desc := "(II)I" } : Jvm.MethodName)),
  (Jvm.Cond.methodLink "HistoryJudge$Machine" (70 : Nat) ({ cls := "HistoryJudge$Model", name := "source", desc := "(I)I" } : Jvm.MethodName)),
  (Jvm.Cond.code ({ cls := "HistoryJudge$Model", name := "answer", desc := "(IIII)I" } : Jvm.MethodName) prog_5_method_7_code (4 : Nat) (Option.some Jvm.ClassFile.FieldType.int)),
  (Jvm.Cond.methodLink "HistoryJudge$Machine" (92 : Nat) ({ cls := "HistoryJudge$Model", name := "answer", desc := "(IIII)I" } : Jvm.MethodName)),
  (Jvm.Cond.static ({ cls := "HistoryJudge$Model", name := "answer", desc := "(IIII)I" } : Jvm.MethodName)),
  (Jvm.Cond.code ({ cls := "HistoryJudge$Machine", name := "isLate", desc := "(I)Z" } : Jvm.MethodName) prog_4_method_6_code (2 : Nat) (Option.some Jvm.ClassFile.FieldType.boolean)),
  (Jvm.Cond.methodLink "HistoryJudge$Machine" (85 : Nat) ({ cls := "HistoryJudge$Machine", name := "isLate", desc := "(I)Z" } : Jvm.MethodName)),
  (Jvm.Cond.instanceMethod ({ cls := "HistoryJudge$Machine", name := "isLate", desc := "(I)Z" } : Jvm.MethodName)),
  (Jvm.Cond.selects "HistoryJudge$Machine" ({ cls := "HistoryJudge$Machine", name := "isLate", desc := "(I)Z" } : Jvm.MethodName) ({ cls := "HistoryJudge$Machine", name := "isLate", desc := "(I)Z" } : Jvm.MethodName)),
  (Jvm.Cond.methodLink "HistoryJudge$Machine" (88 : Nat) ({ cls := "HistoryJudge$Model", name := "after", desc := "(IIII)I" } : Jvm.MethodName)),
  (Jvm.Cond.code ({ cls := "HistoryJudge$Machine", name := "act", desc := "(III)V" } : Jvm.MethodName) prog_4_method_7_code (4 : Nat) (Option.none : Option Jvm.ClassFile.FieldType)),
  (Jvm.Cond.methodLink "HistoryJudge$Machine" (81 : Nat) ({ cls := "HistoryJudge$Machine", name := "act", desc := "(III)V" } : Jvm.MethodName)),
  (Jvm.Cond.instanceMethod ({ cls := "HistoryJudge$Machine", name := "act", desc := "(III)V" } : Jvm.MethodName)),
  (Jvm.Cond.selects "HistoryJudge$Machine" ({ cls := "HistoryJudge$Machine", name := "act", desc := "(III)V" } : Jvm.MethodName) ({ cls := "HistoryJudge$Machine", name := "act", desc := "(III)V" } : Jvm.MethodName)),
  (Jvm.Cond.code ({ cls := "HistoryJudge$Machine", name := "actByNote", desc := "(IIII)V" } : Jvm.MethodName) prog_4_method_8_code (6 : Nat) (Option.none : Option Jvm.ClassFile.FieldType)),
  (Jvm.Cond.methodLink "HistoryJudge$Machine" (77 : Nat) ({ cls := "HistoryJudge$Machine", name := "actByNote", desc := "(IIII)V" } : Jvm.MethodName)),
  (Jvm.Cond.instanceMethod ({ cls := "HistoryJudge$Machine", name := "actByNote", desc := "(IIII)V" } : Jvm.MethodName)),
  (Jvm.Cond.selects "HistoryJudge$Machine" ({ cls := "HistoryJudge$Machine", name := "actByNote", desc := "(IIII)V" } : Jvm.MethodName) ({ cls := "HistoryJudge$Machine", name := "actByNote", desc := "(IIII)V" } : Jvm.MethodName)),
  (Jvm.Cond.fieldLink "HistoryJudge$Machine" (21 : Nat) "HistoryJudge$Machine" "returns" "[I"),
  (Jvm.Cond.code ({ cls := "HistoryJudge$Machine", name := "step", desc := "(LHistoryJudge$Program;II)V" } : Jvm.MethodName) prog_4_method_3_code (7 : Nat) (Option.none : Option Jvm.ClassFile.FieldType)),
  (Jvm.Cond.methodLink "HistoryJudge$Machine" (51 : Nat) ({ cls := "HistoryJudge$Machine", name := "step", desc := "(LHistoryJudge$Program;II)V" } : Jvm.MethodName)),
  (Jvm.Cond.instanceMethod ({ cls := "HistoryJudge$Machine", name := "step", desc := "(LHistoryJudge$Program;II)V" } : Jvm.MethodName)),
  (Jvm.Cond.selects "HistoryJudge$Machine" ({ cls := "HistoryJudge$Machine", name := "step", desc := "(LHistoryJudge$Program;II)V" } : Jvm.MethodName) ({ cls := "HistoryJudge$Machine", name := "step", desc := "(LHistoryJudge$Program;II)V" } : Jvm.MethodName)),
  (Jvm.Cond.methodLink "HistoryJudge$Machine" (42 : Nat) ({ cls := "HistoryJudge$Program", name := "start", desc := "(I)I" } : Jvm.MethodName)),
  (Jvm.Cond.code ({ cls := "HistoryJudge$Machine", name := "perform", desc := "(LHistoryJudge$Program;II)V" } : Jvm.MethodName) prog_4_method_2_code (11 : Nat) (Option.none : Option Jvm.ClassFile.FieldType)),
  (Jvm.Cond.methodLink "HistoryJudge$Tester" (53 : Nat) ({ cls := "HistoryJudge$Machine", name := "perform", desc := "(LHistoryJudge$Program;II)V" } : Jvm.MethodName)),
  (Jvm.Cond.instanceMethod ({ cls := "HistoryJudge$Machine", name := "perform", desc := "(LHistoryJudge$Program;II)V" } : Jvm.MethodName)),
  (Jvm.Cond.selects "HistoryJudge$Machine" ({ cls := "HistoryJudge$Machine", name := "perform", desc := "(LHistoryJudge$Program;II)V" } : Jvm.MethodName) ({ cls := "HistoryJudge$Machine", name := "perform", desc := "(LHistoryJudge$Program;II)V" } : Jvm.MethodName)),
  (Jvm.Cond.fieldLink "HistoryJudge$Tester" (21 : Nat) "HistoryJudge$Tester" "judge" "LHistoryJudge$Judge;"),
  (Jvm.Cond.methodLink "HistoryJudge$Judge" (17 : Nat) ({ cls := "HistoryJudge$Program", name := "end", desc := "(I)I" } : Jvm.MethodName)),
  (Jvm.Cond.methodLink "HistoryJudge$Judge" (31 : Nat) ({ cls := "HistoryJudge$Program", name := "start", desc := "(I)I" } : Jvm.MethodName)),
  (Jvm.Cond.fieldLink "HistoryJudge$Judge" (9 : Nat) "HistoryJudge$Judge" "witness" "[I"),
  (Jvm.Cond.fieldLink "HistoryJudge$Judge" (46 : Nat) "HistoryJudge$Program" "kinds" "[I"),
  (Jvm.Cond.fieldLink "HistoryJudge$Judge" (49 : Nat) "HistoryJudge$Program" "cells" "[I"),
  (Jvm.Cond.fieldLink "HistoryJudge$Judge" (52 : Nat) "HistoryJudge$Machine" "numbers" "[I")]
def lg_6 : List Jvm.Cond := [(Jvm.Cond.methodLink "HistoryJudge$Judge" (55 : Nat) ({ cls := "HistoryJudge$Model", name := "answer", desc := "(IIII)I" } : Jvm.MethodName)),
  (Jvm.Cond.fieldLink "HistoryJudge$Judge" (59 : Nat) "HistoryJudge$Machine" "answers" "[I"),
  (Jvm.Cond.code ({ cls := "HistoryJudge$Judge", name := "answersSo", desc := "(LHistoryJudge$Program;LHistoryJudge$Machine;II)Z" } : Jvm.MethodName) prog_3_method_4_code (5 : Nat) (Option.some Jvm.ClassFile.FieldType.boolean)),
  (Jvm.Cond.methodLink "HistoryJudge$Judge" (23 : Nat) ({ cls := "HistoryJudge$Judge", name := "answersSo", desc := "(LHistoryJudge$Program;LHistoryJudge$Machine;II)Z" } : Jvm.MethodName)),
  (Jvm.Cond.static ({ cls := "HistoryJudge$Judge", name := "answersSo", desc := "(LHistoryJudge$Program;LHistoryJudge$Machine;II)Z" } : Jvm.MethodName)),
  (Jvm.Cond.initialized "HistoryJudge$Judge"),
  (Jvm.Cond.methodLink "HistoryJudge$Judge" (62 : Nat) ({ cls := "HistoryJudge$Model", name := "after", desc := "(IIII)I" } : Jvm.MethodName)),
  (Jvm.Cond.code ({ cls := "HistoryJudge$Judge", name := "after", desc := "(LHistoryJudge$Program;LHistoryJudge$Machine;II)I" } : Jvm.MethodName) prog_3_method_5_code (4 : Nat) (Option.some Jvm.ClassFile.FieldType.int)),
  (Jvm.Cond.methodLink "HistoryJudge$Judge" (27 : Nat) ({ cls := "HistoryJudge$Judge", name := "after", desc := "(LHistoryJudge$Program;LHistoryJudge$Machine;II)I" } : Jvm.MethodName)),
  (Jvm.Cond.static ({ cls := "HistoryJudge$Judge", name := "after", desc := "(LHistoryJudge$Program;LHistoryJudge$Machine;II)I" } : Jvm.MethodName)),
  (Jvm.Cond.code ({ cls := "HistoryJudge$Judge", name := "search", desc := "(LHistoryJudge$Program;LHistoryJudge$Machine;IIII)Z" } : Jvm.MethodName) prog_3_method_3_code (12 : Nat) (Option.some Jvm.ClassFile.FieldType.boolean)),
  (Jvm.Cond.methodLink "HistoryJudge$Judge" (34 : Nat) ({ cls := "HistoryJudge$Judge", name := "search", desc := "(LHistoryJudge$Program;LHistoryJudge$Machine;IIII)Z" } : Jvm.MethodName)),
  (Jvm.Cond.instanceMethod ({ cls := "HistoryJudge$Judge", name := "search", desc := "(LHistoryJudge$Program;LHistoryJudge$Machine;IIII)Z" } : Jvm.MethodName)),
  (Jvm.Cond.selects "HistoryJudge$Judge" ({ cls := "HistoryJudge$Judge", name := "search", desc := "(LHistoryJudge$Program;LHistoryJudge$Machine;IIII)Z" } : Jvm.MethodName) ({ cls := "HistoryJudge$Judge", name := "search", desc := "(LHistoryJudge$Program;LHistoryJudge$Machine;IIII)Z" } : Jvm.MethodName)),
  (Jvm.Cond.fieldLink "HistoryJudge$Judge" (38 : Nat) "HistoryJudge$Machine" "returns" "[I"),
  (Jvm.Cond.fieldLink "HistoryJudge$Judge" (43 : Nat) "HistoryJudge$Machine" "calls" "[I"),
  (Jvm.Cond.code ({ cls := "HistoryJudge$Judge", name := "explains", desc := "(LHistoryJudge$Program;LHistoryJudge$Machine;)Z" } : Jvm.MethodName) prog_3_method_2_code (6 : Nat) (Option.some Jvm.ClassFile.FieldType.boolean)),
  (Jvm.Cond.methodLink "HistoryJudge$Tester" (57 : Nat) ({ cls := "HistoryJudge$Judge", name := "explains", desc := "(LHistoryJudge$Program;LHistoryJudge$Machine;)Z" } : Jvm.MethodName)),
  (Jvm.Cond.instanceMethod ({ cls := "HistoryJudge$Judge", name := "explains", desc := "(LHistoryJudge$Program;LHistoryJudge$Machine;)Z" } : Jvm.MethodName)),
  (Jvm.Cond.selects "HistoryJudge$Judge" ({ cls := "HistoryJudge$Judge", name := "explains", desc := "(LHistoryJudge$Program;LHistoryJudge$Machine;)Z" } : Jvm.MethodName) ({ cls := "HistoryJudge$Judge", name := "explains", desc := "(LHistoryJudge$Program;LHistoryJudge$Machine;)Z" } : Jvm.MethodName)),
  (Jvm.Cond.fieldLink "HistoryJudge$Tester" (42 : Nat) "HistoryJudge$Tester" "explained" "Z"),
  (Jvm.Cond.fieldLink "HistoryJudge$Tester" (33 : Nat) "HistoryJudge$Tester" "runs" "I"),
  (Jvm.Cond.methodLink "HistoryJudge$Tester" (61 : Nat) ({ cls := "HistoryJudge$Program", name := "size", desc := "()I" } : Jvm.MethodName)),
  (Jvm.Cond.fieldLink "HistoryJudge$Tester" (25 : Nat) "HistoryJudge$Tester" "tallies" "[I"),
  (Jvm.Cond.fieldLink "HistoryJudge$Tester" (67 : Nat) "HistoryJudge$Program" "kinds" "[I"),
  (Jvm.Cond.fieldLink "HistoryJudge$Tester" (36 : Nat) "HistoryJudge$Tester" "unexplained" "I"),
  (Jvm.Cond.fieldLink "HistoryJudge$Tester" (49 : Nat) "HistoryJudge$Tester" "draws" "LHistoryJudge$Draws;"),
  (Jvm.Cond.code ({ cls := "HistoryJudge$Draws", name := "restart", desc := "(J)V" } : Jvm.MethodName) prog_2_method_2_code (3 : Nat) (Option.none : Option Jvm.ClassFile.FieldType)),
  (Jvm.Cond.methodLink "HistoryJudge$Tester" (70 : Nat) ({ cls := "HistoryJudge$Draws", name := "restart", desc := "(J)V" } : Jvm.MethodName)),
  (Jvm.Cond.instanceMethod ({ cls := "HistoryJudge$Draws", name := "restart", desc := "(J)V" } : Jvm.MethodName)),
  (Jvm.Cond.selects "HistoryJudge$Draws" ({ cls := "HistoryJudge$Draws", name := "restart", desc := "(J)V" } : Jvm.MethodName) ({ cls := "HistoryJudge$Draws", name := "restart", desc := "(J)V" } : Jvm.MethodName)),
  (Jvm.Cond.constant "HistoryJudge$Tester" (74 : Nat) (2147483647 : Int32)),
  (Jvm.Cond.methodLink "HistoryJudge$Tester" (75 : Nat) ({ cls := "HistoryJudge$Draws", name := "below", desc := "(I)I" } : Jvm.MethodName)),
  (Jvm.Cond.code ({ cls := "HistoryJudge$Tester", name := "test", desc := "(LHistoryJudge$Program;I)Z" } : Jvm.MethodName) prog_7_method_2_code (5 : Nat) (Option.some Jvm.ClassFile.FieldType.boolean)),
  (Jvm.Cond.methodLink "HistoryJudge$Tester" (79 : Nat) ({ cls := "HistoryJudge$Tester", name := "test", desc := "(LHistoryJudge$Program;I)Z" } : Jvm.MethodName)),
  (Jvm.Cond.instanceMethod ({ cls := "HistoryJudge$Tester", name := "test", desc := "(LHistoryJudge$Program;I)Z" } : Jvm.MethodName)),
  (Jvm.Cond.selects "HistoryJudge$Tester" ({ cls := "HistoryJudge$Tester", name := "test", desc := "(LHistoryJudge$Program;I)Z" } : Jvm.MethodName) ({ cls := "HistoryJudge$Tester", name := "test", desc := "(LHistoryJudge$Program;I)Z" } : Jvm.MethodName)),
  (Jvm.Cond.initialized "HistoryJudge$Tester"),
  (Jvm.Cond.methodLink "HistoryJudge" (3 : Nat) ({ cls := "java/lang/Object", name := "<init>", desc := "()V" } : Jvm.MethodName)),
  (Jvm.Cond.instanceMethod ({ cls := "java/lang/Object", name := "<init>", desc := "()V" } : Jvm.MethodName)),
  (Jvm.Cond.code ({ cls := "java/lang/Object", name := "<init>", desc := "()V" } : Jvm.MethodName) object_method_1_code (1 : Nat) (Option.none : Option Jvm.ClassFile.FieldType)),
  (Jvm.Cond.classLink "HistoryJudge" (9 : Nat) "HistoryJudge$Program"),
  (Jvm.Cond.instantiable "HistoryJudge$Program" (4 : Nat)),
  (Jvm.Cond.methodLink "HistoryJudge$Program" (3 : Nat) ({ cls := "java/lang/Object", name := "<init>", desc := "()V" } : Jvm.MethodName)),
  (Jvm.Cond.arrayClass Jvm.ClassFile.FieldType.int),
  (Jvm.Cond.instanceMethod ({ cls := "HistoryJudge$Program", name := "<init>", desc := "()V" } : Jvm.MethodName)),
  (Jvm.Cond.code ({ cls := "HistoryJudge$Program", name := "<init>", desc := "()V" } : Jvm.MethodName) prog_6_method_1_code (1 : Nat) (Option.none : Option Jvm.ClassFile.FieldType)),
  (Jvm.Cond.classLink "HistoryJudge" (19 : Nat) "HistoryJudge$Tester"),
  (Jvm.Cond.instantiable "HistoryJudge$Tester" (9 : Nat)),
  (Jvm.Cond.methodLink "HistoryJudge$Tester" (3 : Nat) ({ cls := "java/lang/Object", name := "<init>", desc := "()V" } : Jvm.MethodName)),
  (Jvm.Cond.classLink "HistoryJudge$Tester" (9 : Nat) "HistoryJudge$Machine"),
  (Jvm.Cond.instantiable "HistoryJudge$Machine" (9 : Nat)),
  (Jvm.Cond.methodLink "HistoryJudge$Machine" (3 : Nat) ({ cls := "java/lang/Object", name := "<init>", desc := "()V" } : Jvm.MethodName)),
  (Jvm.Cond.instanceMethod ({ cls := "HistoryJudge$Machine", name := "<init>", desc := "()V" } : Jvm.MethodName)),
  (Jvm.Cond.code ({ cls := "HistoryJudge$Machine", name := "<init>", desc := "()V" } : Jvm.MethodName) prog_4_method_1_code (1 : Nat) (Option.none : Option Jvm.ClassFile.FieldType)),
  (Jvm.Cond.classLink "HistoryJudge$Tester" (18 : Nat) "HistoryJudge$Judge"),
  (Jvm.Cond.instantiable "HistoryJudge$Judge" (1 : Nat)),
  (Jvm.Cond.methodLink "HistoryJudge$Judge" (3 : Nat) ({ cls := "java/lang/Object", name := "<init>", desc := "()V" } : Jvm.MethodName)),
  (Jvm.Cond.instanceMethod ({ cls := "HistoryJudge$Judge", name := "<init>", desc := "()V" } : Jvm.MethodName)),
  (Jvm.Cond.code ({ cls := "HistoryJudge$Judge", name := "<init>", desc := "()V" } : Jvm.MethodName) prog_3_method_1_code (1 : Nat) (Option.none : Option Jvm.ClassFile.FieldType))]
def lg_7 : List Jvm.Cond := [(Jvm.Cond.classLink "HistoryJudge$Tester" (46 : Nat) "HistoryJudge$Draws"),
  (Jvm.Cond.instantiable "HistoryJudge$Draws" (1 : Nat)),
  (Jvm.Cond.methodLink "HistoryJudge$Draws" (1 : Nat) ({ cls := "java/lang/Object", name := "<init>", desc := "()V" } : Jvm.MethodName)),
  (Jvm.Cond.instanceMethod ({ cls := "HistoryJudge$Draws", name := "<init>", desc := "()V" } : Jvm.MethodName)),
  (Jvm.Cond.code ({ cls := "HistoryJudge$Draws", name := "<init>", desc := "()V" } : Jvm.MethodName) prog_2_method_1_code (1 : Nat) (Option.none : Option Jvm.ClassFile.FieldType)),
  (Jvm.Cond.instanceMethod ({ cls := "HistoryJudge$Tester", name := "<init>", desc := "()V" } : Jvm.MethodName)),
  (Jvm.Cond.code ({ cls := "HistoryJudge$Tester", name := "<init>", desc := "()V" } : Jvm.MethodName) prog_7_method_1_code (1 : Nat) (Option.none : Option Jvm.ClassFile.FieldType)),
  (Jvm.Cond.fieldLink "HistoryJudge" (22 : Nat) "HistoryJudge" "tester" "LHistoryJudge$Tester;"),
  (Jvm.Cond.classLink "HistoryJudge" (26 : Nat) "HistoryJudge$Draws"),
  (Jvm.Cond.fieldLink "HistoryJudge" (33 : Nat) "HistoryJudge" "taken" "I"),
  (Jvm.Cond.methodLink "HistoryJudgeModel" (1 : Nat) ({ cls := "java/lang/Object", name := "<init>", desc := "()V" } : Jvm.MethodName)),
  (Jvm.Cond.arrayClass Jvm.ClassFile.FieldType.boolean),
  (Jvm.Cond.laysFinal "HistoryJudge" "HistoryJudge" "program" "LHistoryJudge$Program;"),
  (Jvm.Cond.laysFinal "HistoryJudge" "HistoryJudge" "trial" "LHistoryJudge$Program;"),
  (Jvm.Cond.laysFinal "HistoryJudge" "HistoryJudge" "tester" "LHistoryJudge$Tester;"),
  (Jvm.Cond.laysFinal "HistoryJudge" "HistoryJudge" "draws" "LHistoryJudge$Draws;"),
  (Jvm.Cond.lays "HistoryJudge" "HistoryJudge" "taken" "I"),
  (Jvm.Cond.lays "HistoryJudge" "HistoryJudge" "runIsCurrent" "Z"),
  (Jvm.Cond.laysFinal "HistoryJudge$Program" "HistoryJudge$Program" "sizes" "[I"),
  (Jvm.Cond.laysFinal "HistoryJudge$Program" "HistoryJudge$Program" "kinds" "[I"),
  (Jvm.Cond.laysFinal "HistoryJudge$Program" "HistoryJudge$Program" "cells" "[I"),
  (Jvm.Cond.laysFinal "HistoryJudge$Program" "HistoryJudge$Program" "arguments" "[I"),
  (Jvm.Cond.laysFinal "HistoryJudge$Tester" "HistoryJudge$Tester" "machine" "LHistoryJudge$Machine;"),
  (Jvm.Cond.laysFinal "HistoryJudge$Tester" "HistoryJudge$Tester" "judge" "LHistoryJudge$Judge;"),
  (Jvm.Cond.laysFinal "HistoryJudge$Tester" "HistoryJudge$Tester" "tallies" "[I"),
  (Jvm.Cond.lays "HistoryJudge$Tester" "HistoryJudge$Tester" "flawBits" "I"),
  (Jvm.Cond.lays "HistoryJudge$Tester" "HistoryJudge$Tester" "runs" "I"),
  (Jvm.Cond.lays "HistoryJudge$Tester" "HistoryJudge$Tester" "unexplained" "I"),
  (Jvm.Cond.lays "HistoryJudge$Tester" "HistoryJudge$Tester" "schedule" "I"),
  (Jvm.Cond.lays "HistoryJudge$Tester" "HistoryJudge$Tester" "explained" "Z"),
  (Jvm.Cond.laysFinal "HistoryJudge$Tester" "HistoryJudge$Tester" "draws" "LHistoryJudge$Draws;"),
  (Jvm.Cond.laysFinal "HistoryJudge$Machine" "HistoryJudge$Machine" "answers" "[I"),
  (Jvm.Cond.laysFinal "HistoryJudge$Machine" "HistoryJudge$Machine" "numbers" "[I"),
  (Jvm.Cond.laysFinal "HistoryJudge$Machine" "HistoryJudge$Machine" "calls" "[I"),
  (Jvm.Cond.laysFinal "HistoryJudge$Machine" "HistoryJudge$Machine" "returns" "[I"),
  (Jvm.Cond.lays "HistoryJudge$Machine" "HistoryJudge$Machine" "cells" "I"),
  (Jvm.Cond.laysFinal "HistoryJudge$Machine" "HistoryJudge$Machine" "nextCommand" "[I"),
  (Jvm.Cond.laysFinal "HistoryJudge$Machine" "HistoryJudge$Machine" "nextEvent" "[I"),
  (Jvm.Cond.laysFinal "HistoryJudge$Machine" "HistoryJudge$Machine" "noted" "[I"),
  (Jvm.Cond.lays "HistoryJudge$Machine" "HistoryJudge$Machine" "flawBits" "I"),
  (Jvm.Cond.laysFinal "HistoryJudge$Judge" "HistoryJudge$Judge" "witness" "[I"),
  (Jvm.Cond.lays "HistoryJudge$Draws" "HistoryJudge$Draws" "state" "J"),
  (Jvm.Cond.lays "HistoryJudgeModel" "HistoryJudgeModel" "thrown" "I"),
  (Jvm.Cond.laysFinal "HistoryJudgeModel" "HistoryJudgeModel" "sizes" "[I"),
  (Jvm.Cond.laysFinal "HistoryJudgeModel" "HistoryJudgeModel" "kind" "[I"),
  (Jvm.Cond.laysFinal "HistoryJudgeModel" "HistoryJudgeModel" "cell" "[I"),
  (Jvm.Cond.laysFinal "HistoryJudgeModel" "HistoryJudgeModel" "argument" "[I"),
  (Jvm.Cond.laysFinal "HistoryJudgeModel" "HistoryJudgeModel" "keptSizes" "[I"),
  (Jvm.Cond.laysFinal "HistoryJudgeModel" "HistoryJudgeModel" "kept" "[I"),
  (Jvm.Cond.lays "HistoryJudgeModel" "HistoryJudgeModel" "flaws" "I"),
  (Jvm.Cond.lays "HistoryJudgeModel" "HistoryJudgeModel" "g" "J"),
  (Jvm.Cond.laysFinal "HistoryJudgeModel" "HistoryJudgeModel" "holds" "[I"),
  (Jvm.Cond.laysFinal "HistoryJudgeModel" "HistoryJudgeModel" "open" "[Z"),
  (Jvm.Cond.laysFinal "HistoryJudgeModel" "HistoryJudgeModel" "has" "[I"),
  (Jvm.Cond.laysFinal "HistoryJudgeModel" "HistoryJudgeModel" "isOpen" "[Z"),
  (Jvm.Cond.lays "HistoryJudgeModel" "HistoryJudgeModel" "ran" "Z"),
  (Jvm.Cond.lays "HistoryJudgeModel" "HistoryJudgeModel" "explained" "Z"),
  (Jvm.Cond.laysFinal "HistoryJudgeModel" "HistoryJudgeModel" "answer" "[I"),
  (Jvm.Cond.laysFinal "HistoryJudgeModel" "HistoryJudgeModel" "number" "[I"),
  (Jvm.Cond.laysFinal "HistoryJudgeModel" "HistoryJudgeModel" "call" "[I")]
def lg_8 : List Jvm.Cond := [(Jvm.Cond.laysFinal "HistoryJudgeModel" "HistoryJudgeModel" "back" "[I"),
  (Jvm.Cond.laysFinal "HistoryJudgeModel" "HistoryJudgeModel" "noted" "[I"),
  (Jvm.Cond.laysFinal "HistoryJudgeModel" "HistoryJudgeModel" "at" "[I"),
  (Jvm.Cond.laysFinal "HistoryJudgeModel" "HistoryJudgeModel" "event" "[I"),
  (Jvm.Cond.lays "HistoryJudgeModel" "HistoryJudgeModel" "witness" "I"),
  (Jvm.Cond.lays "HistoryJudgeModel" "HistoryJudgeModel" "runs" "I"),
  (Jvm.Cond.lays "HistoryJudgeModel" "HistoryJudgeModel" "wrong" "I"),
  (Jvm.Cond.lays "HistoryJudgeModel" "HistoryJudgeModel" "taken" "I"),
  (Jvm.Cond.lays "HistoryJudgeModel" "HistoryJudgeModel" "failing" "I"),
  (Jvm.Cond.laysFinal "HistoryJudgeModel" "HistoryJudgeModel" "tallies" "[I")]
def lg : List Jvm.Cond := lg_0 ++ lg_1 ++ lg_2 ++ lg_3 ++ lg_4 ++ lg_5 ++ lg_6 ++ lg_7 ++ lg_8
def gaX : ev_ga := (clX, nwX, lg)
theorem hw_0 : (Jvm.Cond.fieldLink "HistoryJudge" (12 : Nat) "HistoryJudge" "program" "LHistoryJudge$Program;") ∈ lg := List.mem_append_left _ (List.mem_append_left _ (List.mem_append_left _ (List.mem_append_left _ (List.mem_append_left _ (List.mem_append_left _ (List.mem_append_left _ (List.mem_append_left _ (List.mem_of_getElem? (i := 0) rfl))))))))
theorem hw_1 : (Jvm.Cond.fieldLink "HistoryJudge$Program" (9 : Nat) "HistoryJudge$Program" "sizes" "[I") ∈ lg := List.mem_append_left _ (List.mem_append_left _ (List.mem_append_left _ (List.mem_append_left _ (List.mem_append_left _ (List.mem_append_left _ (List.mem_append_left _ (List.mem_append_left _ (List.mem_of_getElem? (i := 1) rfl))))))))
theorem hw_2 : (Jvm.Cond.code ({ cls := "HistoryJudge$Program", name := "size", desc := "()I" } : Jvm.MethodName) prog_6_method_2_code (1 : Nat) (Option.some Jvm.ClassFile.FieldType.int)) ∈ lg := List.mem_append_left _ (List.mem_append_left _ (List.mem_append_left _ (List.mem_append_left _ (List.mem_append_left _ (List.mem_append_left _ (List.mem_append_left _ (List.mem_append_left _ (List.mem_of_getElem? (i := 2) rfl))))))))
theorem hw_3 : (Jvm.Cond.methodLink "HistoryJudge" (79 : Nat) ({ cls := "HistoryJudge$Program", name := "size", desc := "()I" } : Jvm.MethodName)) ∈ lg := List.mem_append_left _ (List.mem_append_left _ (List.mem_append_left _ (List.mem_append_left _ (List.mem_append_left _ (List.mem_append_left _ (List.mem_append_left _ (List.mem_append_left _ (List.mem_of_getElem? (i := 3) rfl))))))))
theorem hw_4 : (Jvm.Cond.instanceMethod ({ cls := "HistoryJudge$Program", name := "size", desc := "()I" } : Jvm.MethodName)) ∈ lg := List.mem_append_left _ (List.mem_append_left _ (List.mem_append_left _ (List.mem_append_left _ (List.mem_append_left _ (List.mem_append_left _ (List.mem_append_left _ (List.mem_append_left _ (List.mem_of_getElem? (i := 4) rfl))))))))
theorem hw_5 : (Jvm.Cond.selects "HistoryJudge$Program" ({ cls := "HistoryJudge$Program", name := "size", desc := "()I" } : Jvm.MethodName) ({ cls := "HistoryJudge$Program", name := "size", desc := "()I" } : Jvm.MethodName)) ∈ lg := List.mem_append_left _ (List.mem_append_left _ (List.mem_append_left _ (List.mem_append_left _ (List.mem_append_left _ (List.mem_append_left _ (List.mem_append_left _ (List.mem_append_left _ (List.mem_of_getElem? (i := 5) rfl))))))))
theorem hw_6 : (Jvm.Cond.initialized "HistoryJudge$Program") ∈ lg := List.mem_append_left _ (List.mem_append_left _ (List.mem_append_left _ (List.mem_append_left _ (List.mem_append_left _ (List.mem_append_left _ (List.mem_append_left _ (List.mem_append_left _ (List.mem_of_getElem? (i := 6) rfl))))))))
theorem hw_7 : (Jvm.Cond.code ({ cls := "HistoryJudge$Program", name := "empty", desc := "()V" } : Jvm.MethodName) prog_6_method_10_code (2 : Nat) (Option.none : Option Jvm.ClassFile.FieldType)) ∈ lg := List.mem_append_left _ (List.mem_append_left _ (List.mem_append_left _ (List.mem_append_left _ (List.mem_append_left _ (List.mem_append_left _ (List.mem_append_left _ (List.mem_append_left _ (List.mem_of_getElem? (i := 7) rfl))))))))
theorem hw_8 : (Jvm.Cond.methodLink "HistoryJudge" (83 : Nat) ({ cls := "HistoryJudge$Program", name := "empty", desc := "()V" } : Jvm.MethodName)) ∈ lg := List.mem_append_left _ (List.mem_append_left _ (List.mem_append_left _ (List.mem_append_left _ (List.mem_append_left _ (List.mem_append_left _ (List.mem_append_left _ (List.mem_append_left _ (List.mem_of_getElem? (i := 8) rfl))))))))
theorem hw_9 : (Jvm.Cond.instanceMethod ({ cls := "HistoryJudge$Program", name := "empty", desc := "()V" } : Jvm.MethodName)) ∈ lg := List.mem_append_left _ (List.mem_append_left _ (List.mem_append_left _ (List.mem_append_left _ (List.mem_append_left _ (List.mem_append_left _ (List.mem_append_left _ (List.mem_append_left _ (List.mem_of_getElem? (i := 9) rfl))))))))
theorem hw_10 : (Jvm.Cond.selects "HistoryJudge$Program" ({ cls := "HistoryJudge$Program", name := "empty", desc := "()V" } : Jvm.MethodName) ({ cls := "HistoryJudge$Program", name := "empty", desc := "()V" } : Jvm.MethodName)) ∈ lg := List.mem_append_left _ (List.mem_append_left _ (List.mem_append_left _ (List.mem_append_left _ (List.mem_append_left _ (List.mem_append_left _ (List.mem_append_left _ (List.mem_append_left _ (List.mem_of_getElem? (i := 10) rfl))))))))
theorem hw_11 : (Jvm.Cond.fieldLink "HistoryJudge" (37 : Nat) "HistoryJudge" "runIsCurrent" "Z") ∈ lg := List.mem_append_left _ (List.mem_append_left _ (List.mem_append_left _ (List.mem_append_left _ (List.mem_append_left _ (List.mem_append_left _ (List.mem_append_left _ (List.mem_append_left _ (List.mem_of_getElem? (i := 11) rfl))))))))
theorem hw_12 : (Jvm.Cond.fieldLink "HistoryJudge" (16 : Nat) "HistoryJudge" "trial" "LHistoryJudge$Program;") ∈ lg := List.mem_append_left _ (List.mem_append_left _ (List.mem_append_left _ (List.mem_append_left _ (List.mem_append_left _ (List.mem_append_left _ (List.mem_append_left _ (List.mem_append_left _ (List.mem_of_getElem? (i := 12) rfl))))))))
theorem hw_13 : (Jvm.Cond.methodLink "HistoryJudge$Program" (31 : Nat) ({ cls := "HistoryJudge$Program", name := "size", desc := "()I" } : Jvm.MethodName)) ∈ lg := List.mem_append_left _ (List.mem_append_left _ (List.mem_append_left _ (List.mem_append_left _ (List.mem_append_left _ (List.mem_append_left _ (List.mem_append_left _ (List.mem_append_left _ (List.mem_of_getElem? (i := 13) rfl))))))))
theorem hw_14 : (Jvm.Cond.fieldLink "HistoryJudge$Program" (15 : Nat) "HistoryJudge$Program" "kinds" "[I") ∈ lg := List.mem_append_left _ (List.mem_append_left _ (List.mem_append_left _ (List.mem_append_left _ (List.mem_append_left _ (List.mem_append_left _ (List.mem_append_left _ (List.mem_append_left _ (List.mem_of_getElem? (i := 14) rfl))))))))
theorem hw_15 : (Jvm.Cond.methodLink "HistoryJudge$Program" (35 : Nat) ({ cls := "java/lang/System", name := "arraycopy", desc := "(Ljava/lang/Object;ILjava/lang/Object;II)V" } : Jvm.MethodName)) ∈ lg := List.mem_append_left _ (List.mem_append_left _ (List.mem_append_left _ (List.mem_append_left _ (List.mem_append_left _ (List.mem_append_left _ (List.mem_append_left _ (List.mem_append_left _ (List.mem_of_getElem? (i := 15) rfl))))))))
theorem hw_16 : (Jvm.Cond.native ({ cls := "java/lang/System", name := "arraycopy", desc := "(Ljava/lang/Object;ILjava/lang/Object;II)V" } : Jvm.MethodName)) ∈ lg := List.mem_append_left _ (List.mem_append_left _ (List.mem_append_left _ (List.mem_append_left _ (List.mem_append_left _ (List.mem_append_left _ (List.mem_append_left _ (List.mem_append_left _ (List.mem_of_getElem? (i := 16) rfl))))))))
theorem hw_17 : (Jvm.Cond.static ({ cls := "java/lang/System", name := "arraycopy", desc := "(Ljava/lang/Object;ILjava/lang/Object;II)V" } : Jvm.MethodName)) ∈ lg := List.mem_append_left _ (List.mem_append_left _ (List.mem_append_left _ (List.mem_append_left _ (List.mem_append_left _ (List.mem_append_left _ (List.mem_append_left _ (List.mem_append_left _ (List.mem_of_getElem? (i := 17) rfl))))))))
theorem hw_18 : (Jvm.Cond.initialized "java/lang/System") ∈ lg := List.mem_append_left _ (List.mem_append_left _ (List.mem_append_left _ (List.mem_append_left _ (List.mem_append_left _ (List.mem_append_left _ (List.mem_append_left _ (List.mem_append_left _ (List.mem_of_getElem? (i := 18) rfl))))))))
theorem hw_19 : (Jvm.Cond.fieldLink "HistoryJudge$Program" (18 : Nat) "HistoryJudge$Program" "cells" "[I") ∈ lg := List.mem_append_left _ (List.mem_append_left _ (List.mem_append_left _ (List.mem_append_left _ (List.mem_append_left _ (List.mem_append_left _ (List.mem_append_left _ (List.mem_append_left _ (List.mem_of_getElem? (i := 19) rfl))))))))
theorem hw_20 : (Jvm.Cond.fieldLink "HistoryJudge$Program" (21 : Nat) "HistoryJudge$Program" "arguments" "[I") ∈ lg := List.mem_append_left _ (List.mem_append_left _ (List.mem_append_left _ (List.mem_append_left _ (List.mem_append_left _ (List.mem_append_left _ (List.mem_append_left _ (List.mem_append_left _ (List.mem_of_getElem? (i := 20) rfl))))))))
theorem hw_21 : (Jvm.Cond.code ({ cls := "HistoryJudge$Program", name := "copyFrom", desc := "(LHistoryJudge$Program;)V" } : Jvm.MethodName) prog_6_method_11_code (3 : Nat) (Option.none : Option Jvm.ClassFile.FieldType)) ∈ lg := List.mem_append_left _ (List.mem_append_left _ (List.mem_append_left _ (List.mem_append_left _ (List.mem_append_left _ (List.mem_append_left _ (List.mem_append_left _ (List.mem_append_left _ (List.mem_of_getElem? (i := 21) rfl))))))))
theorem hw_22 : (Jvm.Cond.methodLink "HistoryJudge" (125 : Nat) ({ cls := "HistoryJudge$Program", name := "copyFrom", desc := "(LHistoryJudge$Program;)V" } : Jvm.MethodName)) ∈ lg := List.mem_append_left _ (List.mem_append_left _ (List.mem_append_left _ (List.mem_append_left _ (List.mem_append_left _ (List.mem_append_left _ (List.mem_append_left _ (List.mem_append_left _ (List.mem_of_getElem? (i := 22) rfl))))))))
theorem hw_23 : (Jvm.Cond.instanceMethod ({ cls := "HistoryJudge$Program", name := "copyFrom", desc := "(LHistoryJudge$Program;)V" } : Jvm.MethodName)) ∈ lg := List.mem_append_left _ (List.mem_append_left _ (List.mem_append_left _ (List.mem_append_left _ (List.mem_append_left _ (List.mem_append_left _ (List.mem_append_left _ (List.mem_append_left _ (List.mem_of_getElem? (i := 23) rfl))))))))
theorem hw_24 : (Jvm.Cond.selects "HistoryJudge$Program" ({ cls := "HistoryJudge$Program", name := "copyFrom", desc := "(LHistoryJudge$Program;)V" } : Jvm.MethodName) ({ cls := "HistoryJudge$Program", name := "copyFrom", desc := "(LHistoryJudge$Program;)V" } : Jvm.MethodName)) ∈ lg := List.mem_append_left _ (List.mem_append_left _ (List.mem_append_left _ (List.mem_append_left _ (List.mem_append_left _ (List.mem_append_left _ (List.mem_append_left _ (List.mem_append_left _ (List.mem_of_getElem? (i := 24) rfl))))))))
theorem hw_25 : (Jvm.Cond.code ({ cls := "HistoryJudge$Program", name := "start", desc := "(I)I" } : Jvm.MethodName) prog_6_method_3_code (2 : Nat) (Option.some Jvm.ClassFile.FieldType.int)) ∈ lg := List.mem_append_left _ (List.mem_append_left _ (List.mem_append_left _ (List.mem_append_left _ (List.mem_append_left _ (List.mem_append_left _ (List.mem_append_left _ (List.mem_append_left _ (List.mem_of_getElem? (i := 25) rfl))))))))
theorem hw_26 : (Jvm.Cond.methodLink "HistoryJudge$Program" (24 : Nat) ({ cls := "HistoryJudge$Program", name := "start", desc := "(I)I" } : Jvm.MethodName)) ∈ lg := List.mem_append_left _ (List.mem_append_left _ (List.mem_append_left _ (List.mem_append_left _ (List.mem_append_left _ (List.mem_append_left _ (List.mem_append_left _ (List.mem_append_left _ (List.mem_of_getElem? (i := 26) rfl))))))))
theorem hw_27 : (Jvm.Cond.instanceMethod ({ cls := "HistoryJudge$Program", name := "start", desc := "(I)I" } : Jvm.MethodName)) ∈ lg := List.mem_append_left _ (List.mem_append_left _ (List.mem_append_left _ (List.mem_append_left _ (List.mem_append_left _ (List.mem_append_left _ (List.mem_append_left _ (List.mem_append_left _ (List.mem_of_getElem? (i := 27) rfl))))))))
theorem hw_28 : (Jvm.Cond.selects "HistoryJudge$Program" ({ cls := "HistoryJudge$Program", name := "start", desc := "(I)I" } : Jvm.MethodName) ({ cls := "HistoryJudge$Program", name := "start", desc := "(I)I" } : Jvm.MethodName)) ∈ lg := List.mem_append_left _ (List.mem_append_left _ (List.mem_append_left _ (List.mem_append_left _ (List.mem_append_left _ (List.mem_append_left _ (List.mem_append_left _ (List.mem_append_left _ (List.mem_of_getElem? (i := 28) rfl))))))))
theorem hw_29 : (Jvm.Cond.code ({ cls := "HistoryJudge$Program", name := "end", desc := "(I)I" } : Jvm.MethodName) prog_6_method_4_code (2 : Nat) (Option.some Jvm.ClassFile.FieldType.int)) ∈ lg := List.mem_append_left _ (List.mem_append_left _ (List.mem_append_left _ (List.mem_append_left _ (List.mem_append_left _ (List.mem_append_left _ (List.mem_append_left _ (List.mem_append_left _ (List.mem_of_getElem? (i := 29) rfl))))))))
theorem hw_30 : (Jvm.Cond.methodLink "HistoryJudge$Program" (28 : Nat) ({ cls := "HistoryJudge$Program", name := "end", desc := "(I)I" } : Jvm.MethodName)) ∈ lg := List.mem_append_left _ (List.mem_append_left _ (List.mem_append_left _ (List.mem_append_left _ (List.mem_append_left _ (List.mem_append_left _ (List.mem_append_left _ (List.mem_append_left _ (List.mem_of_getElem? (i := 30) rfl))))))))
theorem hw_31 : (Jvm.Cond.instanceMethod ({ cls := "HistoryJudge$Program", name := "end", desc := "(I)I" } : Jvm.MethodName)) ∈ lg := List.mem_append_left _ (List.mem_append_left _ (List.mem_append_left _ (List.mem_append_left _ (List.mem_append_left _ (List.mem_append_left _ (List.mem_append_left _ (List.mem_append_left _ (List.mem_of_getElem? (i := 31) rfl))))))))
theorem hw_32 : (Jvm.Cond.selects "HistoryJudge$Program" ({ cls := "HistoryJudge$Program", name := "end", desc := "(I)I" } : Jvm.MethodName) ({ cls := "HistoryJudge$Program", name := "end", desc := "(I)I" } : Jvm.MethodName)) ∈ lg := List.mem_append_left _ (List.mem_append_left _ (List.mem_append_left _ (List.mem_append_left _ (List.mem_append_left _ (List.mem_append_left _ (List.mem_append_left _ (List.mem_append_left _ (List.mem_of_getElem? (i := 32) rfl))))))))
theorem hw_33 : (Jvm.Cond.code ({ cls := "HistoryJudge$Program", name := "put", desc := "(IIII)V" } : Jvm.MethodName) prog_6_method_19_code (5 : Nat) (Option.none : Option Jvm.ClassFile.FieldType)) ∈ lg := List.mem_append_left _ (List.mem_append_left _ (List.mem_append_left _ (List.mem_append_left _ (List.mem_append_left _ (List.mem_append_left _ (List.mem_append_left _ (List.mem_append_left _ (List.mem_of_getElem? (i := 33) rfl))))))))
theorem hw_34 : (Jvm.Cond.methodLink "HistoryJudge$Program" (48 : Nat) ({ cls := "HistoryJudge$Program", name := "put", desc := "(IIII)V" } : Jvm.MethodName)) ∈ lg := List.mem_append_left _ (List.mem_append_left _ (List.mem_append_left _ (List.mem_append_left _ (List.mem_append_left _ (List.mem_append_left _ (List.mem_append_left _ (List.mem_append_left _ (List.mem_of_getElem? (i := 34) rfl))))))))
theorem hw_35 : (Jvm.Cond.instanceMethod ({ cls := "HistoryJudge$Program", name := "put", desc := "(IIII)V" } : Jvm.MethodName)) ∈ lg := List.mem_append_left _ (List.mem_append_left _ (List.mem_append_left _ (List.mem_append_left _ (List.mem_append_left _ (List.mem_append_left _ (List.mem_append_left _ (List.mem_append_left _ (List.mem_of_getElem? (i := 35) rfl))))))))
theorem hw_36 : (Jvm.Cond.selects "HistoryJudge$Program" ({ cls := "HistoryJudge$Program", name := "put", desc := "(IIII)V" } : Jvm.MethodName) ({ cls := "HistoryJudge$Program", name := "put", desc := "(IIII)V" } : Jvm.MethodName)) ∈ lg := List.mem_append_left _ (List.mem_append_left _ (List.mem_append_left _ (List.mem_append_left _ (List.mem_append_left _ (List.mem_append_left _ (List.mem_append_left _ (List.mem_append_left _ (List.mem_of_getElem? (i := 36) rfl))))))))
theorem hw_37 : (Jvm.Cond.code ({ cls := "HistoryJudge$Program", name := "shiftUp", desc := "(II)V" } : Jvm.MethodName) prog_6_method_20_code (4 : Nat) (Option.none : Option Jvm.ClassFile.FieldType)) ∈ lg := List.mem_append_left _ (List.mem_append_left _ (List.mem_append_left _ (List.mem_append_left _ (List.mem_append_left _ (List.mem_append_left _ (List.mem_append_left _ (List.mem_append_left _ (List.mem_of_getElem? (i := 37) rfl))))))))
theorem hw_38 : (Jvm.Cond.methodLink "HistoryJudge$Program" (41 : Nat) ({ cls := "HistoryJudge$Program", name := "shiftUp", desc := "(II)V" } : Jvm.MethodName)) ∈ lg := List.mem_append_left _ (List.mem_append_left _ (List.mem_append_left _ (List.mem_append_left _ (List.mem_append_left _ (List.mem_append_left _ (List.mem_append_left _ (List.mem_append_left _ (List.mem_of_getElem? (i := 38) rfl))))))))
theorem hw_39 : (Jvm.Cond.instanceMethod ({ cls := "HistoryJudge$Program", name := "shiftUp", desc := "(II)V" } : Jvm.MethodName)) ∈ lg := List.mem_append_left _ (List.mem_append_left _ (List.mem_append_left _ (List.mem_append_left _ (List.mem_append_left _ (List.mem_append_left _ (List.mem_append_left _ (List.mem_append_left _ (List.mem_of_getElem? (i := 39) rfl))))))))
theorem hw_40 : (Jvm.Cond.selects "HistoryJudge$Program" ({ cls := "HistoryJudge$Program", name := "shiftUp", desc := "(II)V" } : Jvm.MethodName) ({ cls := "HistoryJudge$Program", name := "shiftUp", desc := "(II)V" } : Jvm.MethodName)) ∈ lg := List.mem_append_left _ (List.mem_append_left _ (List.mem_append_left _ (List.mem_append_left _ (List.mem_append_left _ (List.mem_append_left _ (List.mem_append_left _ (List.mem_append_left _ (List.mem_of_getElem? (i := 40) rfl))))))))
theorem hw_41 : (Jvm.Cond.code ({ cls := "HistoryJudge$Program", name := "renumber", desc := "(II)V" } : Jvm.MethodName) prog_6_method_21_code (5 : Nat) (Option.none : Option Jvm.ClassFile.FieldType)) ∈ lg := List.mem_append_left _ (List.mem_append_left _ (List.mem_append_left _ (List.mem_append_left _ (List.mem_append_left _ (List.mem_append_left _ (List.mem_append_left _ (List.mem_append_left _ (List.mem_of_getElem? (i := 41) rfl))))))))
theorem hw_42 : (Jvm.Cond.methodLink "HistoryJudge$Program" (45 : Nat) ({ cls := "HistoryJudge$Program", name := "renumber", desc := "(II)V" } : Jvm.MethodName)) ∈ lg := List.mem_append_left _ (List.mem_append_left _ (List.mem_append_left _ (List.mem_append_left _ (List.mem_append_left _ (List.mem_append_left _ (List.mem_append_left _ (List.mem_append_left _ (List.mem_of_getElem? (i := 42) rfl))))))))
theorem hw_43 : (Jvm.Cond.instanceMethod ({ cls := "HistoryJudge$Program", name := "renumber", desc := "(II)V" } : Jvm.MethodName)) ∈ lg := List.mem_append_left _ (List.mem_append_left _ (List.mem_append_left _ (List.mem_append_left _ (List.mem_append_left _ (List.mem_append_left _ (List.mem_append_left _ (List.mem_append_left _ (List.mem_of_getElem? (i := 43) rfl))))))))
theorem hw_44 : (Jvm.Cond.selects "HistoryJudge$Program" ({ cls := "HistoryJudge$Program", name := "renumber", desc := "(II)V" } : Jvm.MethodName) ({ cls := "HistoryJudge$Program", name := "renumber", desc := "(II)V" } : Jvm.MethodName)) ∈ lg := List.mem_append_left _ (List.mem_append_left _ (List.mem_append_left _ (List.mem_append_left _ (List.mem_append_left _ (List.mem_append_left _ (List.mem_append_left _ (List.mem_append_left _ (List.mem_of_getElem? (i := 44) rfl))))))))
theorem hw_45 : (Jvm.Cond.code ({ cls := "HistoryJudge$Program", name := "append", desc := "(IIII)V" } : Jvm.MethodName) prog_6_method_12_code (6 : Nat) (Option.none : Option Jvm.ClassFile.FieldType)) ∈ lg := List.mem_append_left _ (List.mem_append_left _ (List.mem_append_left _ (List.mem_append_left _ (List.mem_append_left _ (List.mem_append_left _ (List.mem_append_left _ (List.mem_append_left _ (List.mem_of_getElem? (i := 45) rfl))))))))
theorem hw_46 : (Jvm.Cond.methodLink "HistoryJudge" (212 : Nat) ({ cls := "HistoryJudge$Program", name := "append", desc := "(IIII)V" } : Jvm.MethodName)) ∈ lg := List.mem_append_left _ (List.mem_append_left _ (List.mem_append_left _ (List.mem_append_left _ (List.mem_append_left _ (List.mem_append_left _ (List.mem_append_left _ (List.mem_append_left _ (List.mem_of_getElem? (i := 46) rfl))))))))
theorem hw_47 : (Jvm.Cond.instanceMethod ({ cls := "HistoryJudge$Program", name := "append", desc := "(IIII)V" } : Jvm.MethodName)) ∈ lg := List.mem_append_left _ (List.mem_append_left _ (List.mem_append_left _ (List.mem_append_left _ (List.mem_append_left _ (List.mem_append_left _ (List.mem_append_left _ (List.mem_append_left _ (List.mem_of_getElem? (i := 47) rfl))))))))
theorem hw_48 : (Jvm.Cond.selects "HistoryJudge$Program" ({ cls := "HistoryJudge$Program", name := "append", desc := "(IIII)V" } : Jvm.MethodName) ({ cls := "HistoryJudge$Program", name := "append", desc := "(IIII)V" } : Jvm.MethodName)) ∈ lg := List.mem_append_left _ (List.mem_append_left _ (List.mem_append_left _ (List.mem_append_left _ (List.mem_append_left _ (List.mem_append_left _ (List.mem_append_left _ (List.mem_append_left _ (List.mem_of_getElem? (i := 48) rfl))))))))
theorem hw_49 : (Jvm.Cond.code ({ cls := "HistoryJudge$Model", name := "isOpen", desc := "(II)Z" } : Jvm.MethodName) prog_5_method_4_code (2 : Nat) (Option.some Jvm.ClassFile.FieldType.boolean)) ∈ lg := List.mem_append_left _ (List.mem_append_left _ (List.mem_append_left _ (List.mem_append_left _ (List.mem_append_left _ (List.mem_append_left _ (List.mem_append_left _ (List.mem_append_left _ (List.mem_of_getElem? (i := 49) rfl))))))))
theorem hw_50 : (Jvm.Cond.methodLink "HistoryJudge$Model" (11 : Nat) ({ cls := "HistoryJudge$Model", name := "isOpen", desc := "(II)Z" } : Jvm.MethodName)) ∈ lg := List.mem_append_left _ (List.mem_append_left _ (List.mem_append_left _ (List.mem_append_left _ (List.mem_append_left _ (List.mem_append_left _ (List.mem_append_left _ (List.mem_append_left _ (List.mem_of_getElem? (i := 50) rfl))))))))
theorem hw_51 : (Jvm.Cond.static ({ cls := "HistoryJudge$Model", name := "isOpen", desc := "(II)Z" } : Jvm.MethodName)) ∈ lg := List.mem_append_left _ (List.mem_append_left _ (List.mem_append_left _ (List.mem_append_left _ (List.mem_append_left _ (List.mem_append_left _ (List.mem_append_left _ (List.mem_append_left _ (List.mem_of_getElem? (i := 51) rfl))))))))
theorem hw_52 : (Jvm.Cond.initialized "HistoryJudge$Model") ∈ lg := List.mem_append_left _ (List.mem_append_left _ (List.mem_append_left _ (List.mem_append_left _ (List.mem_append_left _ (List.mem_append_left _ (List.mem_append_left _ (List.mem_append_left _ (List.mem_of_getElem? (i := 52) rfl))))))))
theorem hw_53 : (Jvm.Cond.code ({ cls := "HistoryJudge$Model", name := "source", desc := "(I)I" } : Jvm.MethodName) prog_5_method_5_code (1 : Nat) (Option.some Jvm.ClassFile.FieldType.int)) ∈ lg := List.mem_append_left _ (List.mem_append_left _ (List.mem_append_left _ (List.mem_append_left _ (List.mem_append_left _ (List.mem_append_left _ (List.mem_append_left _ (List.mem_append_left _ (List.mem_of_getElem? (i := 53) rfl))))))))
theorem hw_54 : (Jvm.Cond.methodLink "HistoryJudge$Model" (15 : Nat) ({ cls := "HistoryJudge$Model", name := "source", desc := "(I)I" } : Jvm.MethodName)) ∈ lg := List.mem_append_left _ (List.mem_append_left _ (List.mem_append_left _ (List.mem_append_left _ (List.mem_append_left _ (List.mem_append_left _ (List.mem_append_left _ (List.mem_append_left _ (List.mem_of_getElem? (i := 54) rfl))))))))
theorem hw_55 : (Jvm.Cond.static ({ cls := "HistoryJudge$Model", name := "source", desc := "(I)I" } : Jvm.MethodName)) ∈ lg := List.mem_append_left _ (List.mem_append_left _ (List.mem_append_left _ (List.mem_append_left _ (List.mem_append_left _ (List.mem_append_left _ (List.mem_append_left _ (List.mem_append_left _ (List.mem_of_getElem? (i := 55) rfl))))))))
theorem hw_56 : (Jvm.Cond.code ({ cls := "HistoryJudge$Model", name := "allows", desc := "(III)Z" } : Jvm.MethodName) prog_5_method_6_code (3 : Nat) (Option.some Jvm.ClassFile.FieldType.boolean)) ∈ lg := List.mem_append_left _ (List.mem_append_left _ (List.mem_append_left _ (List.mem_append_left _ (List.mem_append_left _ (List.mem_append_left _ (List.mem_append_left _ (List.mem_append_left _ (List.mem_of_getElem? (i := 56) rfl))))))))
theorem hw_57 : (Jvm.Cond.methodLink "HistoryJudge$Program" (64 : Nat) ({ cls := "HistoryJudge$Model", name := "allows", desc := "(III)Z" } : Jvm.MethodName)) ∈ lg := List.mem_append_left _ (List.mem_append_left _ (List.mem_append_left _ (List.mem_append_left _ (List.mem_append_left _ (List.mem_append_left _ (List.mem_append_left _ (List.mem_append_left _ (List.mem_of_getElem? (i := 57) rfl))))))))
theorem hw_58 : (Jvm.Cond.static ({ cls := "HistoryJudge$Model", name := "allows", desc := "(III)Z" } : Jvm.MethodName)) ∈ lg := List.mem_append_left _ (List.mem_append_left _ (List.mem_append_left _ (List.mem_append_left _ (List.mem_append_left _ (List.mem_append_left _ (List.mem_append_left _ (List.mem_append_left _ (List.mem_of_getElem? (i := 58) rfl))))))))
theorem hw_59 : (Jvm.Cond.code ({ cls := "HistoryJudge$Model", name := "content", desc := "(II)I" } : Jvm.MethodName) prog_5_method_2_code (2 : Nat) (Option.some Jvm.ClassFile.FieldType.int)) ∈ lg := List.mem_append_left _ (List.mem_append_left _ (List.mem_append_left _ (List.mem_append_left _ (List.mem_append_left _ (List.mem_append_left _ (List.mem_append_left _ (List.mem_append_left _ (List.mem_of_getElem? (i := 59) rfl))))))))
theorem hw_60 : (Jvm.Cond.methodLink "HistoryJudge$Model" (23 : Nat) ({ cls := "HistoryJudge$Model", name := "content", desc := "(II)I" } : Jvm.MethodName)) ∈ lg := List.mem_append_left _ (List.mem_append_left _ (List.mem_append_left _ (List.mem_append_left _ (List.mem_append_left _ (List.mem_append_left _ (List.mem_append_left _ (List.mem_append_right _ (List.mem_of_getElem? (i := 0) rfl))))))))
theorem hw_61 : (Jvm.Cond.static ({ cls := "HistoryJudge$Model", name := "content", desc := "(II)I" } : Jvm.MethodName)) ∈ lg := List.mem_append_left _ (List.mem_append_left _ (List.mem_append_left _ (List.mem_append_left _ (List.mem_append_left _ (List.mem_append_left _ (List.mem_append_left _ (List.mem_append_right _ (List.mem_of_getElem? (i := 1) rfl))))))))
theorem hw_62 : (Jvm.Cond.code ({ cls := "HistoryJudge$Model", name := "held", desc := "(II)I" } : Jvm.MethodName) prog_5_method_3_code (2 : Nat) (Option.some Jvm.ClassFile.FieldType.int)) ∈ lg := List.mem_append_left _ (List.mem_append_left _ (List.mem_append_left _ (List.mem_append_left _ (List.mem_append_left _ (List.mem_append_left _ (List.mem_append_left _ (List.mem_append_right _ (List.mem_of_getElem? (i := 2) rfl))))))))
theorem hw_63 : (Jvm.Cond.methodLink "HistoryJudge$Model" (19 : Nat) ({ cls := "HistoryJudge$Model", name := "held", desc := "(II)I" } : Jvm.MethodName)) ∈ lg := List.mem_append_left _ (List.mem_append_left _ (List.mem_append_left _ (List.mem_append_left _ (List.mem_append_left _ (List.mem_append_left _ (List.mem_append_left _ (List.mem_append_right _ (List.mem_of_getElem? (i := 3) rfl))))))))
theorem hw_64 : (Jvm.Cond.static ({ cls := "HistoryJudge$Model", name := "held", desc := "(II)I" } : Jvm.MethodName)) ∈ lg := List.mem_append_left _ (List.mem_append_left _ (List.mem_append_left _ (List.mem_append_left _ (List.mem_append_left _ (List.mem_append_left _ (List.mem_append_left _ (List.mem_append_right _ (List.mem_of_getElem? (i := 4) rfl))))))))
theorem hw_65 : (Jvm.Cond.code ({ cls := "HistoryJudge$Model", name := "after", desc := "(IIII)I" } : Jvm.MethodName) prog_5_method_8_code (7 : Nat) (Option.some Jvm.ClassFile.FieldType.int)) ∈ lg := List.mem_append_left _ (List.mem_append_left _ (List.mem_append_left _ (List.mem_append_left _ (List.mem_append_left _ (List.mem_append_left _ (List.mem_append_left _ (List.mem_append_right _ (List.mem_of_getElem? (i := 5) rfl))))))))
theorem hw_66 : (Jvm.Cond.methodLink "HistoryJudge$Program" (68 : Nat) ({ cls := "HistoryJudge$Model", name := "after", desc := "(IIII)I" } : Jvm.MethodName)) ∈ lg := List.mem_append_left _ (List.mem_append_left _ (List.mem_append_left _ (List.mem_append_left _ (List.mem_append_left _ (List.mem_append_left _ (List.mem_append_left _ (List.mem_append_right _ (List.mem_of_getElem? (i := 6) rfl))))))))
theorem hw_67 : (Jvm.Cond.static ({ cls := "HistoryJudge$Model", name := "after", desc := "(IIII)I" } : Jvm.MethodName)) ∈ lg := List.mem_append_left _ (List.mem_append_left _ (List.mem_append_left _ (List.mem_append_left _ (List.mem_append_left _ (List.mem_append_left _ (List.mem_append_left _ (List.mem_append_right _ (List.mem_of_getElem? (i := 7) rfl))))))))
theorem hw_68 : (Jvm.Cond.code ({ cls := "HistoryJudge$Program", name := "isValidBeside", desc := "(II)Z" } : Jvm.MethodName) prog_6_method_17_code (6 : Nat) (Option.some Jvm.ClassFile.FieldType.boolean)) ∈ lg := List.mem_append_left _ (List.mem_append_left _ (List.mem_append_left _ (List.mem_append_left _ (List.mem_append_left _ (List.mem_append_left _ (List.mem_append_left _ (List.mem_append_right _ (List.mem_of_getElem? (i := 8) rfl))))))))
theorem hw_69 : (Jvm.Cond.methodLink "HistoryJudge$Program" (72 : Nat) ({ cls := "HistoryJudge$Program", name := "isValidBeside", desc := "(II)Z" } : Jvm.MethodName)) ∈ lg := List.mem_append_left _ (List.mem_append_left _ (List.mem_append_left _ (List.mem_append_left _ (List.mem_append_left _ (List.mem_append_left _ (List.mem_append_left _ (List.mem_append_right _ (List.mem_of_getElem? (i := 9) rfl))))))))
theorem hw_70 : (Jvm.Cond.instanceMethod ({ cls := "HistoryJudge$Program", name := "isValidBeside", desc := "(II)Z" } : Jvm.MethodName)) ∈ lg := List.mem_append_left _ (List.mem_append_left _ (List.mem_append_left _ (List.mem_append_left _ (List.mem_append_left _ (List.mem_append_left _ (List.mem_append_left _ (List.mem_append_right _ (List.mem_of_getElem? (i := 10) rfl))))))))
theorem hw_71 : (Jvm.Cond.selects "HistoryJudge$Program" ({ cls := "HistoryJudge$Program", name := "isValidBeside", desc := "(II)Z" } : Jvm.MethodName) ({ cls := "HistoryJudge$Program", name := "isValidBeside", desc := "(II)Z" } : Jvm.MethodName)) ∈ lg := List.mem_append_left _ (List.mem_append_left _ (List.mem_append_left _ (List.mem_append_left _ (List.mem_append_left _ (List.mem_append_left _ (List.mem_append_left _ (List.mem_append_right _ (List.mem_of_getElem? (i := 11) rfl))))))))
theorem hw_72 : (Jvm.Cond.code ({ cls := "HistoryJudge$Program", name := "isValid", desc := "()Z" } : Jvm.MethodName) prog_6_method_16_code (5 : Nat) (Option.some Jvm.ClassFile.FieldType.boolean)) ∈ lg := List.mem_append_left _ (List.mem_append_left _ (List.mem_append_left _ (List.mem_append_left _ (List.mem_append_left _ (List.mem_append_left _ (List.mem_append_left _ (List.mem_append_right _ (List.mem_of_getElem? (i := 12) rfl))))))))
theorem hw_73 : (Jvm.Cond.methodLink "HistoryJudge" (121 : Nat) ({ cls := "HistoryJudge$Program", name := "isValid", desc := "()Z" } : Jvm.MethodName)) ∈ lg := List.mem_append_left _ (List.mem_append_left _ (List.mem_append_left _ (List.mem_append_left _ (List.mem_append_left _ (List.mem_append_left _ (List.mem_append_left _ (List.mem_append_right _ (List.mem_of_getElem? (i := 13) rfl))))))))
theorem hw_74 : (Jvm.Cond.instanceMethod ({ cls := "HistoryJudge$Program", name := "isValid", desc := "()Z" } : Jvm.MethodName)) ∈ lg := List.mem_append_left _ (List.mem_append_left _ (List.mem_append_left _ (List.mem_append_left _ (List.mem_append_left _ (List.mem_append_left _ (List.mem_append_left _ (List.mem_append_right _ (List.mem_of_getElem? (i := 14) rfl))))))))
theorem hw_75 : (Jvm.Cond.selects "HistoryJudge$Program" ({ cls := "HistoryJudge$Program", name := "isValid", desc := "()Z" } : Jvm.MethodName) ({ cls := "HistoryJudge$Program", name := "isValid", desc := "()Z" } : Jvm.MethodName)) ∈ lg := List.mem_append_left _ (List.mem_append_left _ (List.mem_append_left _ (List.mem_append_left _ (List.mem_append_left _ (List.mem_append_left _ (List.mem_append_left _ (List.mem_append_right _ (List.mem_of_getElem? (i := 15) rfl))))))))
theorem hw_76 : (Jvm.Cond.fieldLink "HistoryJudge" (29 : Nat) "HistoryJudge" "draws" "LHistoryJudge$Draws;") ∈ lg := List.mem_append_left _ (List.mem_append_left _ (List.mem_append_left _ (List.mem_append_left _ (List.mem_append_left _ (List.mem_append_left _ (List.mem_append_left _ (List.mem_append_right _ (List.mem_of_getElem? (i := 16) rfl))))))))
theorem hw_77 : (Jvm.Cond.fieldLink "HistoryJudge$Draws" (7 : Nat) "HistoryJudge$Draws" "state" "J") ∈ lg := List.mem_append_left _ (List.mem_append_left _ (List.mem_append_left _ (List.mem_append_left _ (List.mem_append_left _ (List.mem_append_left _ (List.mem_append_left _ (List.mem_append_right _ (List.mem_of_getElem? (i := 17) rfl))))))))
theorem hw_78 : (Jvm.Cond.constantLong "HistoryJudge$Draws" (13 : Nat) (6364136223846793005 : Int64)) ∈ lg := List.mem_append_left _ (List.mem_append_left _ (List.mem_append_left _ (List.mem_append_left _ (List.mem_append_left _ (List.mem_append_left _ (List.mem_append_left _ (List.mem_append_right _ (List.mem_of_getElem? (i := 18) rfl))))))))
theorem hw_79 : (Jvm.Cond.constantLong "HistoryJudge$Draws" (15 : Nat) (1442695040888963407 : Int64)) ∈ lg := List.mem_append_left _ (List.mem_append_left _ (List.mem_append_left _ (List.mem_append_left _ (List.mem_append_left _ (List.mem_append_left _ (List.mem_append_left _ (List.mem_append_right _ (List.mem_of_getElem? (i := 19) rfl))))))))
theorem hw_80 : (Jvm.Cond.code ({ cls := "HistoryJudge$Draws", name := "below", desc := "(I)I" } : Jvm.MethodName) prog_2_method_3_code (3 : Nat) (Option.some Jvm.ClassFile.FieldType.int)) ∈ lg := List.mem_append_left _ (List.mem_append_left _ (List.mem_append_left _ (List.mem_append_left _ (List.mem_append_left _ (List.mem_append_left _ (List.mem_append_left _ (List.mem_append_right _ (List.mem_of_getElem? (i := 20) rfl))))))))
theorem hw_81 : (Jvm.Cond.methodLink "HistoryJudge" (219 : Nat) ({ cls := "HistoryJudge$Draws", name := "below", desc := "(I)I" } : Jvm.MethodName)) ∈ lg := List.mem_append_left _ (List.mem_append_left _ (List.mem_append_left _ (List.mem_append_left _ (List.mem_append_left _ (List.mem_append_left _ (List.mem_append_left _ (List.mem_append_right _ (List.mem_of_getElem? (i := 21) rfl))))))))
theorem hw_82 : (Jvm.Cond.instanceMethod ({ cls := "HistoryJudge$Draws", name := "below", desc := "(I)I" } : Jvm.MethodName)) ∈ lg := List.mem_append_left _ (List.mem_append_left _ (List.mem_append_left _ (List.mem_append_left _ (List.mem_append_left _ (List.mem_append_left _ (List.mem_append_left _ (List.mem_append_right _ (List.mem_of_getElem? (i := 22) rfl))))))))
theorem hw_83 : (Jvm.Cond.selects "HistoryJudge$Draws" ({ cls := "HistoryJudge$Draws", name := "below", desc := "(I)I" } : Jvm.MethodName) ({ cls := "HistoryJudge$Draws", name := "below", desc := "(I)I" } : Jvm.MethodName)) ∈ lg := List.mem_append_left _ (List.mem_append_left _ (List.mem_append_left _ (List.mem_append_left _ (List.mem_append_left _ (List.mem_append_left _ (List.mem_append_left _ (List.mem_append_right _ (List.mem_of_getElem? (i := 23) rfl))))))))
theorem hw_84 : (Jvm.Cond.initialized "HistoryJudge$Draws") ∈ lg := List.mem_append_left _ (List.mem_append_left _ (List.mem_append_left _ (List.mem_append_left _ (List.mem_append_left _ (List.mem_append_left _ (List.mem_append_left _ (List.mem_append_right _ (List.mem_of_getElem? (i := 24) rfl))))))))
theorem hw_85 : (Jvm.Cond.code ({ cls := "HistoryJudge$Program", name := "known", desc := "(I)I" } : Jvm.MethodName) prog_6_method_7_code (2 : Nat) (Option.some Jvm.ClassFile.FieldType.int)) ∈ lg := List.mem_append_left _ (List.mem_append_left _ (List.mem_append_left _ (List.mem_append_left _ (List.mem_append_left _ (List.mem_append_left _ (List.mem_append_left _ (List.mem_append_right _ (List.mem_of_getElem? (i := 25) rfl))))))))
theorem hw_86 : (Jvm.Cond.methodLink "HistoryJudge" (222 : Nat) ({ cls := "HistoryJudge$Program", name := "known", desc := "(I)I" } : Jvm.MethodName)) ∈ lg := List.mem_append_left _ (List.mem_append_left _ (List.mem_append_left _ (List.mem_append_left _ (List.mem_append_left _ (List.mem_append_left _ (List.mem_append_left _ (List.mem_append_right _ (List.mem_of_getElem? (i := 26) rfl))))))))
theorem hw_87 : (Jvm.Cond.instanceMethod ({ cls := "HistoryJudge$Program", name := "known", desc := "(I)I" } : Jvm.MethodName)) ∈ lg := List.mem_append_left _ (List.mem_append_left _ (List.mem_append_left _ (List.mem_append_left _ (List.mem_append_left _ (List.mem_append_left _ (List.mem_append_left _ (List.mem_append_right _ (List.mem_of_getElem? (i := 27) rfl))))))))
theorem hw_88 : (Jvm.Cond.selects "HistoryJudge$Program" ({ cls := "HistoryJudge$Program", name := "known", desc := "(I)I" } : Jvm.MethodName) ({ cls := "HistoryJudge$Program", name := "known", desc := "(I)I" } : Jvm.MethodName)) ∈ lg := List.mem_append_left _ (List.mem_append_left _ (List.mem_append_left _ (List.mem_append_left _ (List.mem_append_left _ (List.mem_append_left _ (List.mem_append_left _ (List.mem_append_right _ (List.mem_of_getElem? (i := 28) rfl))))))))
theorem hw_89 : (Jvm.Cond.code ({ cls := "HistoryJudge", name := "appendIfValid", desc := "(IIII)Z" } : Jvm.MethodName) prog_1_method_16_code (5 : Nat) (Option.some Jvm.ClassFile.FieldType.boolean)) ∈ lg := List.mem_append_left _ (List.mem_append_left _ (List.mem_append_left _ (List.mem_append_left _ (List.mem_append_left _ (List.mem_append_left _ (List.mem_append_left _ (List.mem_append_right _ (List.mem_of_getElem? (i := 29) rfl))))))))
theorem hw_90 : (Jvm.Cond.methodLink "HistoryJudge" (70 : Nat) ({ cls := "HistoryJudge", name := "appendIfValid", desc := "(IIII)Z" } : Jvm.MethodName)) ∈ lg := List.mem_append_left _ (List.mem_append_left _ (List.mem_append_left _ (List.mem_append_left _ (List.mem_append_left _ (List.mem_append_left _ (List.mem_append_left _ (List.mem_append_right _ (List.mem_of_getElem? (i := 30) rfl))))))))
theorem hw_91 : (Jvm.Cond.instanceMethod ({ cls := "HistoryJudge", name := "appendIfValid", desc := "(IIII)Z" } : Jvm.MethodName)) ∈ lg := List.mem_append_left _ (List.mem_append_left _ (List.mem_append_left _ (List.mem_append_left _ (List.mem_append_left _ (List.mem_append_left _ (List.mem_append_left _ (List.mem_append_right _ (List.mem_of_getElem? (i := 31) rfl))))))))
theorem hw_92 : (Jvm.Cond.selects "HistoryJudge" ({ cls := "HistoryJudge", name := "appendIfValid", desc := "(IIII)Z" } : Jvm.MethodName) ({ cls := "HistoryJudge", name := "appendIfValid", desc := "(IIII)Z" } : Jvm.MethodName)) ∈ lg := List.mem_append_left _ (List.mem_append_left _ (List.mem_append_left _ (List.mem_append_left _ (List.mem_append_left _ (List.mem_append_left _ (List.mem_append_left _ (List.mem_append_right _ (List.mem_of_getElem? (i := 32) rfl))))))))
theorem hw_93 : (Jvm.Cond.initialized "HistoryJudge") ∈ lg := List.mem_append_left _ (List.mem_append_left _ (List.mem_append_left _ (List.mem_append_left _ (List.mem_append_left _ (List.mem_append_left _ (List.mem_append_left _ (List.mem_append_right _ (List.mem_of_getElem? (i := 33) rfl))))))))
theorem hw_94 : (Jvm.Cond.code ({ cls := "HistoryJudge$Program", name := "knownAt", desc := "(II)I" } : Jvm.MethodName) prog_6_method_8_code (3 : Nat) (Option.some Jvm.ClassFile.FieldType.int)) ∈ lg := List.mem_append_left _ (List.mem_append_left _ (List.mem_append_left _ (List.mem_append_left _ (List.mem_append_left _ (List.mem_append_left _ (List.mem_append_left _ (List.mem_append_right _ (List.mem_of_getElem? (i := 34) rfl))))))))
theorem hw_95 : (Jvm.Cond.methodLink "HistoryJudge" (225 : Nat) ({ cls := "HistoryJudge$Program", name := "knownAt", desc := "(II)I" } : Jvm.MethodName)) ∈ lg := List.mem_append_left _ (List.mem_append_left _ (List.mem_append_left _ (List.mem_append_left _ (List.mem_append_left _ (List.mem_append_left _ (List.mem_append_left _ (List.mem_append_right _ (List.mem_of_getElem? (i := 35) rfl))))))))
theorem hw_96 : (Jvm.Cond.instanceMethod ({ cls := "HistoryJudge$Program", name := "knownAt", desc := "(II)I" } : Jvm.MethodName)) ∈ lg := List.mem_append_left _ (List.mem_append_left _ (List.mem_append_left _ (List.mem_append_left _ (List.mem_append_left _ (List.mem_append_left _ (List.mem_append_left _ (List.mem_append_right _ (List.mem_of_getElem? (i := 36) rfl))))))))
theorem hw_97 : (Jvm.Cond.selects "HistoryJudge$Program" ({ cls := "HistoryJudge$Program", name := "knownAt", desc := "(II)I" } : Jvm.MethodName) ({ cls := "HistoryJudge$Program", name := "knownAt", desc := "(II)I" } : Jvm.MethodName)) ∈ lg := List.mem_append_left _ (List.mem_append_left _ (List.mem_append_left _ (List.mem_append_left _ (List.mem_append_left _ (List.mem_append_left _ (List.mem_append_left _ (List.mem_append_right _ (List.mem_of_getElem? (i := 37) rfl))))))))
theorem hw_98 : (Jvm.Cond.code ({ cls := "HistoryJudge", name := "drawCommand", desc := "(I)Z" } : Jvm.MethodName) prog_1_method_18_code (7 : Nat) (Option.some Jvm.ClassFile.FieldType.boolean)) ∈ lg := List.mem_append_left _ (List.mem_append_left _ (List.mem_append_left _ (List.mem_append_left _ (List.mem_append_left _ (List.mem_append_left _ (List.mem_append_left _ (List.mem_append_right _ (List.mem_of_getElem? (i := 38) rfl))))))))
theorem hw_99 : (Jvm.Cond.methodLink "HistoryJudge" (216 : Nat) ({ cls := "HistoryJudge", name := "drawCommand", desc := "(I)Z" } : Jvm.MethodName)) ∈ lg := List.mem_append_left _ (List.mem_append_left _ (List.mem_append_left _ (List.mem_append_left _ (List.mem_append_left _ (List.mem_append_left _ (List.mem_append_left _ (List.mem_append_right _ (List.mem_of_getElem? (i := 39) rfl))))))))
theorem hw_100 : (Jvm.Cond.instanceMethod ({ cls := "HistoryJudge", name := "drawCommand", desc := "(I)Z" } : Jvm.MethodName)) ∈ lg := List.mem_append_left _ (List.mem_append_left _ (List.mem_append_left _ (List.mem_append_left _ (List.mem_append_left _ (List.mem_append_left _ (List.mem_append_left _ (List.mem_append_right _ (List.mem_of_getElem? (i := 40) rfl))))))))
theorem hw_101 : (Jvm.Cond.selects "HistoryJudge" ({ cls := "HistoryJudge", name := "drawCommand", desc := "(I)Z" } : Jvm.MethodName) ({ cls := "HistoryJudge", name := "drawCommand", desc := "(I)Z" } : Jvm.MethodName)) ∈ lg := List.mem_append_left _ (List.mem_append_left _ (List.mem_append_left _ (List.mem_append_left _ (List.mem_append_left _ (List.mem_append_left _ (List.mem_append_left _ (List.mem_append_right _ (List.mem_of_getElem? (i := 41) rfl))))))))
theorem hw_102 : (Jvm.Cond.code ({ cls := "HistoryJudge$Program", name := "lower", desc := "(IZ)Z" } : Jvm.MethodName) prog_6_method_15_code (4 : Nat) (Option.some Jvm.ClassFile.FieldType.boolean)) ∈ lg := List.mem_append_left _ (List.mem_append_left _ (List.mem_append_left _ (List.mem_append_left _ (List.mem_append_left _ (List.mem_append_left _ (List.mem_append_left _ (List.mem_append_right _ (List.mem_of_getElem? (i := 42) rfl))))))))
theorem hw_103 : (Jvm.Cond.methodLink "HistoryJudge" (234 : Nat) ({ cls := "HistoryJudge$Program", name := "lower", desc := "(IZ)Z" } : Jvm.MethodName)) ∈ lg := List.mem_append_left _ (List.mem_append_left _ (List.mem_append_left _ (List.mem_append_left _ (List.mem_append_left _ (List.mem_append_left _ (List.mem_append_left _ (List.mem_append_right _ (List.mem_of_getElem? (i := 43) rfl))))))))
theorem hw_104 : (Jvm.Cond.instanceMethod ({ cls := "HistoryJudge$Program", name := "lower", desc := "(IZ)Z" } : Jvm.MethodName)) ∈ lg := List.mem_append_left _ (List.mem_append_left _ (List.mem_append_left _ (List.mem_append_left _ (List.mem_append_left _ (List.mem_append_left _ (List.mem_append_left _ (List.mem_append_right _ (List.mem_of_getElem? (i := 44) rfl))))))))
theorem hw_105 : (Jvm.Cond.selects "HistoryJudge$Program" ({ cls := "HistoryJudge$Program", name := "lower", desc := "(IZ)Z" } : Jvm.MethodName) ({ cls := "HistoryJudge$Program", name := "lower", desc := "(IZ)Z" } : Jvm.MethodName)) ∈ lg := List.mem_append_left _ (List.mem_append_left _ (List.mem_append_left _ (List.mem_append_left _ (List.mem_append_left _ (List.mem_append_left _ (List.mem_append_left _ (List.mem_append_right _ (List.mem_of_getElem? (i := 45) rfl))))))))
theorem hw_106 : (Jvm.Cond.code ({ cls := "HistoryJudge$Program", name := "hasRoom", desc := "(I)Z" } : Jvm.MethodName) prog_6_method_6_code (2 : Nat) (Option.some Jvm.ClassFile.FieldType.boolean)) ∈ lg := List.mem_append_left _ (List.mem_append_left _ (List.mem_append_left _ (List.mem_append_left _ (List.mem_append_left _ (List.mem_append_left _ (List.mem_append_left _ (List.mem_append_right _ (List.mem_of_getElem? (i := 46) rfl))))))))
theorem hw_107 : (Jvm.Cond.methodLink "HistoryJudge$Program" (59 : Nat) ({ cls := "HistoryJudge$Program", name := "hasRoom", desc := "(I)Z" } : Jvm.MethodName)) ∈ lg := List.mem_append_left _ (List.mem_append_left _ (List.mem_append_left _ (List.mem_append_left _ (List.mem_append_left _ (List.mem_append_left _ (List.mem_append_left _ (List.mem_append_right _ (List.mem_of_getElem? (i := 47) rfl))))))))
theorem hw_108 : (Jvm.Cond.instanceMethod ({ cls := "HistoryJudge$Program", name := "hasRoom", desc := "(I)Z" } : Jvm.MethodName)) ∈ lg := List.mem_append_left _ (List.mem_append_left _ (List.mem_append_left _ (List.mem_append_left _ (List.mem_append_left _ (List.mem_append_left _ (List.mem_append_left _ (List.mem_append_right _ (List.mem_of_getElem? (i := 48) rfl))))))))
theorem hw_109 : (Jvm.Cond.selects "HistoryJudge$Program" ({ cls := "HistoryJudge$Program", name := "hasRoom", desc := "(I)Z" } : Jvm.MethodName) ({ cls := "HistoryJudge$Program", name := "hasRoom", desc := "(I)Z" } : Jvm.MethodName)) ∈ lg := List.mem_append_left _ (List.mem_append_left _ (List.mem_append_left _ (List.mem_append_left _ (List.mem_append_left _ (List.mem_append_left _ (List.mem_append_left _ (List.mem_append_right _ (List.mem_of_getElem? (i := 49) rfl))))))))
theorem hw_110 : (Jvm.Cond.code ({ cls := "HistoryJudge$Program", name := "promote", desc := "(I)Z" } : Jvm.MethodName) prog_6_method_14_code (10 : Nat) (Option.some Jvm.ClassFile.FieldType.boolean)) ∈ lg := List.mem_append_left _ (List.mem_append_left _ (List.mem_append_left _ (List.mem_append_left _ (List.mem_append_left _ (List.mem_append_left _ (List.mem_append_left _ (List.mem_append_right _ (List.mem_of_getElem? (i := 50) rfl))))))))
theorem hw_111 : (Jvm.Cond.methodLink "HistoryJudge" (231 : Nat) ({ cls := "HistoryJudge$Program", name := "promote", desc := "(I)Z" } : Jvm.MethodName)) ∈ lg := List.mem_append_left _ (List.mem_append_left _ (List.mem_append_left _ (List.mem_append_left _ (List.mem_append_left _ (List.mem_append_left _ (List.mem_append_left _ (List.mem_append_right _ (List.mem_of_getElem? (i := 51) rfl))))))))
theorem hw_112 : (Jvm.Cond.instanceMethod ({ cls := "HistoryJudge$Program", name := "promote", desc := "(I)Z" } : Jvm.MethodName)) ∈ lg := List.mem_append_left _ (List.mem_append_left _ (List.mem_append_left _ (List.mem_append_left _ (List.mem_append_left _ (List.mem_append_left _ (List.mem_append_left _ (List.mem_append_right _ (List.mem_of_getElem? (i := 52) rfl))))))))
theorem hw_113 : (Jvm.Cond.selects "HistoryJudge$Program" ({ cls := "HistoryJudge$Program", name := "promote", desc := "(I)Z" } : Jvm.MethodName) ({ cls := "HistoryJudge$Program", name := "promote", desc := "(I)Z" } : Jvm.MethodName)) ∈ lg := List.mem_append_left _ (List.mem_append_left _ (List.mem_append_left _ (List.mem_append_left _ (List.mem_append_left _ (List.mem_append_left _ (List.mem_append_left _ (List.mem_append_right _ (List.mem_of_getElem? (i := 53) rfl))))))))
theorem hw_114 : (Jvm.Cond.code ({ cls := "HistoryJudge$Program", name := "isNeeded", desc := "(I)Z" } : Jvm.MethodName) prog_6_method_18_code (4 : Nat) (Option.some Jvm.ClassFile.FieldType.boolean)) ∈ lg := List.mem_append_left _ (List.mem_append_left _ (List.mem_append_left _ (List.mem_append_left _ (List.mem_append_left _ (List.mem_append_left _ (List.mem_append_left _ (List.mem_append_right _ (List.mem_of_getElem? (i := 54) rfl))))))))
theorem hw_115 : (Jvm.Cond.methodLink "HistoryJudge$Program" (52 : Nat) ({ cls := "HistoryJudge$Program", name := "isNeeded", desc := "(I)Z" } : Jvm.MethodName)) ∈ lg := List.mem_append_left _ (List.mem_append_left _ (List.mem_append_left _ (List.mem_append_left _ (List.mem_append_left _ (List.mem_append_left _ (List.mem_append_left _ (List.mem_append_right _ (List.mem_of_getElem? (i := 55) rfl))))))))
theorem hw_116 : (Jvm.Cond.instanceMethod ({ cls := "HistoryJudge$Program", name := "isNeeded", desc := "(I)Z" } : Jvm.MethodName)) ∈ lg := List.mem_append_left _ (List.mem_append_left _ (List.mem_append_left _ (List.mem_append_left _ (List.mem_append_left _ (List.mem_append_left _ (List.mem_append_left _ (List.mem_append_right _ (List.mem_of_getElem? (i := 56) rfl))))))))
theorem hw_117 : (Jvm.Cond.selects "HistoryJudge$Program" ({ cls := "HistoryJudge$Program", name := "isNeeded", desc := "(I)Z" } : Jvm.MethodName) ({ cls := "HistoryJudge$Program", name := "isNeeded", desc := "(I)Z" } : Jvm.MethodName)) ∈ lg := List.mem_append_left _ (List.mem_append_left _ (List.mem_append_left _ (List.mem_append_left _ (List.mem_append_left _ (List.mem_append_left _ (List.mem_append_left _ (List.mem_append_right _ (List.mem_of_getElem? (i := 57) rfl))))))))
theorem hw_118 : (Jvm.Cond.code ({ cls := "HistoryJudge$Program", name := "branchOf", desc := "(I)I" } : Jvm.MethodName) prog_6_method_5_code (2 : Nat) (Option.some Jvm.ClassFile.FieldType.int)) ∈ lg := List.mem_append_left _ (List.mem_append_left _ (List.mem_append_left _ (List.mem_append_left _ (List.mem_append_left _ (List.mem_append_left _ (List.mem_append_left _ (List.mem_append_right _ (List.mem_of_getElem? (i := 58) rfl))))))))
theorem hw_119 : (Jvm.Cond.methodLink "HistoryJudge$Program" (56 : Nat) ({ cls := "HistoryJudge$Program", name := "branchOf", desc := "(I)I" } : Jvm.MethodName)) ∈ lg := List.mem_append_left _ (List.mem_append_left _ (List.mem_append_left _ (List.mem_append_left _ (List.mem_append_left _ (List.mem_append_left _ (List.mem_append_left _ (List.mem_append_right _ (List.mem_of_getElem? (i := 59) rfl))))))))
theorem hw_120 : (Jvm.Cond.instanceMethod ({ cls := "HistoryJudge$Program", name := "branchOf", desc := "(I)I" } : Jvm.MethodName)) ∈ lg := List.mem_append_left _ (List.mem_append_left _ (List.mem_append_left _ (List.mem_append_left _ (List.mem_append_left _ (List.mem_append_left _ (List.mem_append_right _ (List.mem_of_getElem? (i := 0) rfl)))))))
theorem hw_121 : (Jvm.Cond.selects "HistoryJudge$Program" ({ cls := "HistoryJudge$Program", name := "branchOf", desc := "(I)I" } : Jvm.MethodName) ({ cls := "HistoryJudge$Program", name := "branchOf", desc := "(I)I" } : Jvm.MethodName)) ∈ lg := List.mem_append_left _ (List.mem_append_left _ (List.mem_append_left _ (List.mem_append_left _ (List.mem_append_left _ (List.mem_append_left _ (List.mem_append_right _ (List.mem_of_getElem? (i := 1) rfl)))))))
theorem hw_122 : (Jvm.Cond.code ({ cls := "HistoryJudge$Program", name := "remove", desc := "(I)Z" } : Jvm.MethodName) prog_6_method_13_code (4 : Nat) (Option.some Jvm.ClassFile.FieldType.boolean)) ∈ lg := List.mem_append_left _ (List.mem_append_left _ (List.mem_append_left _ (List.mem_append_left _ (List.mem_append_left _ (List.mem_append_left _ (List.mem_append_right _ (List.mem_of_getElem? (i := 2) rfl)))))))
theorem hw_123 : (Jvm.Cond.methodLink "HistoryJudge" (228 : Nat) ({ cls := "HistoryJudge$Program", name := "remove", desc := "(I)Z" } : Jvm.MethodName)) ∈ lg := List.mem_append_left _ (List.mem_append_left _ (List.mem_append_left _ (List.mem_append_left _ (List.mem_append_left _ (List.mem_append_left _ (List.mem_append_right _ (List.mem_of_getElem? (i := 3) rfl)))))))
theorem hw_124 : (Jvm.Cond.instanceMethod ({ cls := "HistoryJudge$Program", name := "remove", desc := "(I)Z" } : Jvm.MethodName)) ∈ lg := List.mem_append_left _ (List.mem_append_left _ (List.mem_append_left _ (List.mem_append_left _ (List.mem_append_left _ (List.mem_append_left _ (List.mem_append_right _ (List.mem_of_getElem? (i := 4) rfl)))))))
theorem hw_125 : (Jvm.Cond.selects "HistoryJudge$Program" ({ cls := "HistoryJudge$Program", name := "remove", desc := "(I)Z" } : Jvm.MethodName) ({ cls := "HistoryJudge$Program", name := "remove", desc := "(I)Z" } : Jvm.MethodName)) ∈ lg := List.mem_append_left _ (List.mem_append_left _ (List.mem_append_left _ (List.mem_append_left _ (List.mem_append_left _ (List.mem_append_left _ (List.mem_append_right _ (List.mem_of_getElem? (i := 5) rfl)))))))
theorem hw_126 : (Jvm.Cond.fieldLink "HistoryJudgeModel" (65 : Nat) "HistoryJudgeModel" "thrown" "I") ∈ lg := List.mem_append_left _ (List.mem_append_left _ (List.mem_append_left _ (List.mem_append_left _ (List.mem_append_left _ (List.mem_append_left _ (List.mem_append_right _ (List.mem_of_getElem? (i := 6) rfl)))))))
theorem hw_127 : (Jvm.Cond.fieldLink "HistoryJudgeModel" (7 : Nat) "HistoryJudgeModel" "sizes" "[I") ∈ lg := List.mem_append_left _ (List.mem_append_left _ (List.mem_append_left _ (List.mem_append_left _ (List.mem_append_left _ (List.mem_append_left _ (List.mem_append_right _ (List.mem_of_getElem? (i := 7) rfl)))))))
theorem hw_128 : (Jvm.Cond.code ({ cls := "HistoryJudgeModel", name := "branch", desc := "(I)I" } : Jvm.MethodName) prog_9_method_6_code (2 : Nat) (Option.some Jvm.ClassFile.FieldType.int)) ∈ lg := List.mem_append_left _ (List.mem_append_left _ (List.mem_append_left _ (List.mem_append_left _ (List.mem_append_left _ (List.mem_append_left _ (List.mem_append_right _ (List.mem_of_getElem? (i := 8) rfl)))))))
theorem hw_129 : (Jvm.Cond.methodLink "HistoryJudgeModel" (69 : Nat) ({ cls := "HistoryJudgeModel", name := "branch", desc := "(I)I" } : Jvm.MethodName)) ∈ lg := List.mem_append_left _ (List.mem_append_left _ (List.mem_append_left _ (List.mem_append_left _ (List.mem_append_left _ (List.mem_append_left _ (List.mem_append_right _ (List.mem_of_getElem? (i := 9) rfl)))))))
theorem hw_130 : (Jvm.Cond.instanceMethod ({ cls := "HistoryJudgeModel", name := "branch", desc := "(I)I" } : Jvm.MethodName)) ∈ lg := List.mem_append_left _ (List.mem_append_left _ (List.mem_append_left _ (List.mem_append_left _ (List.mem_append_left _ (List.mem_append_left _ (List.mem_append_right _ (List.mem_of_getElem? (i := 10) rfl)))))))
theorem hw_131 : (Jvm.Cond.selects "HistoryJudgeModel" ({ cls := "HistoryJudgeModel", name := "branch", desc := "(I)I" } : Jvm.MethodName) ({ cls := "HistoryJudgeModel", name := "branch", desc := "(I)I" } : Jvm.MethodName)) ∈ lg := List.mem_append_left _ (List.mem_append_left _ (List.mem_append_left _ (List.mem_append_left _ (List.mem_append_left _ (List.mem_append_left _ (List.mem_append_right _ (List.mem_of_getElem? (i := 11) rfl)))))))
theorem hw_132 : (Jvm.Cond.initialized "HistoryJudgeModel") ∈ lg := List.mem_append_left _ (List.mem_append_left _ (List.mem_append_left _ (List.mem_append_left _ (List.mem_append_left _ (List.mem_append_left _ (List.mem_append_right _ (List.mem_of_getElem? (i := 12) rfl)))))))
theorem hw_133 : (Jvm.Cond.code ({ cls := "HistoryJudgeModel", name := "first", desc := "(I)I" } : Jvm.MethodName) prog_9_method_7_code (2 : Nat) (Option.some Jvm.ClassFile.FieldType.int)) ∈ lg := List.mem_append_left _ (List.mem_append_left _ (List.mem_append_left _ (List.mem_append_left _ (List.mem_append_left _ (List.mem_append_left _ (List.mem_append_right _ (List.mem_of_getElem? (i := 13) rfl)))))))
theorem hw_134 : (Jvm.Cond.methodLink "HistoryJudgeModel" (73 : Nat) ({ cls := "HistoryJudgeModel", name := "first", desc := "(I)I" } : Jvm.MethodName)) ∈ lg := List.mem_append_left _ (List.mem_append_left _ (List.mem_append_left _ (List.mem_append_left _ (List.mem_append_left _ (List.mem_append_left _ (List.mem_append_right _ (List.mem_of_getElem? (i := 14) rfl)))))))
theorem hw_135 : (Jvm.Cond.instanceMethod ({ cls := "HistoryJudgeModel", name := "first", desc := "(I)I" } : Jvm.MethodName)) ∈ lg := List.mem_append_left _ (List.mem_append_left _ (List.mem_append_left _ (List.mem_append_left _ (List.mem_append_left _ (List.mem_append_left _ (List.mem_append_right _ (List.mem_of_getElem? (i := 15) rfl)))))))
theorem hw_136 : (Jvm.Cond.selects "HistoryJudgeModel" ({ cls := "HistoryJudgeModel", name := "first", desc := "(I)I" } : Jvm.MethodName) ({ cls := "HistoryJudgeModel", name := "first", desc := "(I)I" } : Jvm.MethodName)) ∈ lg := List.mem_append_left _ (List.mem_append_left _ (List.mem_append_left _ (List.mem_append_left _ (List.mem_append_left _ (List.mem_append_left _ (List.mem_append_right _ (List.mem_of_getElem? (i := 16) rfl)))))))
theorem hw_137 : (Jvm.Cond.fieldLink "HistoryJudgeModel" (16 : Nat) "HistoryJudgeModel" "cell" "[I") ∈ lg := List.mem_append_left _ (List.mem_append_left _ (List.mem_append_left _ (List.mem_append_left _ (List.mem_append_left _ (List.mem_append_left _ (List.mem_append_right _ (List.mem_of_getElem? (i := 17) rfl)))))))
theorem hw_138 : (Jvm.Cond.fieldLink "HistoryJudgeModel" (13 : Nat) "HistoryJudgeModel" "kind" "[I") ∈ lg := List.mem_append_left _ (List.mem_append_left _ (List.mem_append_left _ (List.mem_append_left _ (List.mem_append_left _ (List.mem_append_left _ (List.mem_append_right _ (List.mem_of_getElem? (i := 18) rfl)))))))
theorem hw_139 : (Jvm.Cond.fieldLink "HistoryJudgeModel" (31 : Nat) "HistoryJudgeModel" "open" "[Z") ∈ lg := List.mem_append_left _ (List.mem_append_left _ (List.mem_append_left _ (List.mem_append_left _ (List.mem_append_left _ (List.mem_append_left _ (List.mem_append_right _ (List.mem_of_getElem? (i := 19) rfl)))))))
theorem hw_140 : (Jvm.Cond.code ({ cls := "HistoryJudgeModel", name := "placed", desc := "(II)I" } : Jvm.MethodName) prog_9_method_9_code (6 : Nat) (Option.some Jvm.ClassFile.FieldType.int)) ∈ lg := List.mem_append_left _ (List.mem_append_left _ (List.mem_append_left _ (List.mem_append_left _ (List.mem_append_left _ (List.mem_append_left _ (List.mem_append_right _ (List.mem_of_getElem? (i := 20) rfl)))))))
theorem hw_141 : (Jvm.Cond.methodLink "HistoryJudgeModel" (80 : Nat) ({ cls := "HistoryJudgeModel", name := "placed", desc := "(II)I" } : Jvm.MethodName)) ∈ lg := List.mem_append_left _ (List.mem_append_left _ (List.mem_append_left _ (List.mem_append_left _ (List.mem_append_left _ (List.mem_append_left _ (List.mem_append_right _ (List.mem_of_getElem? (i := 21) rfl)))))))
theorem hw_142 : (Jvm.Cond.instanceMethod ({ cls := "HistoryJudgeModel", name := "placed", desc := "(II)I" } : Jvm.MethodName)) ∈ lg := List.mem_append_left _ (List.mem_append_left _ (List.mem_append_left _ (List.mem_append_left _ (List.mem_append_left _ (List.mem_append_left _ (List.mem_append_right _ (List.mem_of_getElem? (i := 22) rfl)))))))
theorem hw_143 : (Jvm.Cond.selects "HistoryJudgeModel" ({ cls := "HistoryJudgeModel", name := "placed", desc := "(II)I" } : Jvm.MethodName) ({ cls := "HistoryJudgeModel", name := "placed", desc := "(II)I" } : Jvm.MethodName)) ∈ lg := List.mem_append_left _ (List.mem_append_left _ (List.mem_append_left _ (List.mem_append_left _ (List.mem_append_left _ (List.mem_append_left _ (List.mem_append_right _ (List.mem_of_getElem? (i := 23) rfl)))))))
theorem hw_144 : (Jvm.Cond.code ({ cls := "HistoryJudgeModel", name := "finds", desc := "(I)Z" } : Jvm.MethodName) prog_9_method_11_code (4 : Nat) (Option.some Jvm.ClassFile.FieldType.boolean)) ∈ lg := List.mem_append_left _ (List.mem_append_left _ (List.mem_append_left _ (List.mem_append_left _ (List.mem_append_left _ (List.mem_append_left _ (List.mem_append_right _ (List.mem_of_getElem? (i := 24) rfl)))))))
theorem hw_145 : (Jvm.Cond.methodLink "HistoryJudgeModel" (76 : Nat) ({ cls := "HistoryJudgeModel", name := "finds", desc := "(I)Z" } : Jvm.MethodName)) ∈ lg := List.mem_append_left _ (List.mem_append_left _ (List.mem_append_left _ (List.mem_append_left _ (List.mem_append_left _ (List.mem_append_left _ (List.mem_append_right _ (List.mem_of_getElem? (i := 25) rfl)))))))
theorem hw_146 : (Jvm.Cond.instanceMethod ({ cls := "HistoryJudgeModel", name := "finds", desc := "(I)Z" } : Jvm.MethodName)) ∈ lg := List.mem_append_left _ (List.mem_append_left _ (List.mem_append_left _ (List.mem_append_left _ (List.mem_append_left _ (List.mem_append_left _ (List.mem_append_right _ (List.mem_of_getElem? (i := 26) rfl)))))))
theorem hw_147 : (Jvm.Cond.selects "HistoryJudgeModel" ({ cls := "HistoryJudgeModel", name := "finds", desc := "(I)Z" } : Jvm.MethodName) ({ cls := "HistoryJudgeModel", name := "finds", desc := "(I)Z" } : Jvm.MethodName)) ∈ lg := List.mem_append_left _ (List.mem_append_left _ (List.mem_append_left _ (List.mem_append_left _ (List.mem_append_left _ (List.mem_append_left _ (List.mem_append_right _ (List.mem_of_getElem? (i := 27) rfl)))))))
theorem hw_148 : (Jvm.Cond.code ({ cls := "HistoryJudgeModel", name := "many", desc := "()I" } : Jvm.MethodName) prog_9_method_5_code (1 : Nat) (Option.some Jvm.ClassFile.FieldType.int)) ∈ lg := List.mem_append_left _ (List.mem_append_left _ (List.mem_append_left _ (List.mem_append_left _ (List.mem_append_left _ (List.mem_append_left _ (List.mem_append_right _ (List.mem_of_getElem? (i := 28) rfl)))))))
theorem hw_149 : (Jvm.Cond.methodLink "HistoryJudgeModel" (84 : Nat) ({ cls := "HistoryJudgeModel", name := "many", desc := "()I" } : Jvm.MethodName)) ∈ lg := List.mem_append_left _ (List.mem_append_left _ (List.mem_append_left _ (List.mem_append_left _ (List.mem_append_left _ (List.mem_append_left _ (List.mem_append_right _ (List.mem_of_getElem? (i := 29) rfl)))))))
theorem hw_150 : (Jvm.Cond.instanceMethod ({ cls := "HistoryJudgeModel", name := "many", desc := "()I" } : Jvm.MethodName)) ∈ lg := List.mem_append_left _ (List.mem_append_left _ (List.mem_append_left _ (List.mem_append_left _ (List.mem_append_left _ (List.mem_append_left _ (List.mem_append_right _ (List.mem_of_getElem? (i := 30) rfl)))))))
theorem hw_151 : (Jvm.Cond.selects "HistoryJudgeModel" ({ cls := "HistoryJudgeModel", name := "many", desc := "()I" } : Jvm.MethodName) ({ cls := "HistoryJudgeModel", name := "many", desc := "()I" } : Jvm.MethodName)) ∈ lg := List.mem_append_left _ (List.mem_append_left _ (List.mem_append_left _ (List.mem_append_left _ (List.mem_append_left _ (List.mem_append_left _ (List.mem_append_right _ (List.mem_of_getElem? (i := 31) rfl)))))))
theorem hw_152 : (Jvm.Cond.code ({ cls := "HistoryJudgeModel", name := "isOrder", desc := "(I)Z" } : Jvm.MethodName) prog_9_method_10_code (4 : Nat) (Option.some Jvm.ClassFile.FieldType.boolean)) ∈ lg := List.mem_append_left _ (List.mem_append_left _ (List.mem_append_left _ (List.mem_append_left _ (List.mem_append_left _ (List.mem_append_left _ (List.mem_append_right _ (List.mem_of_getElem? (i := 32) rfl)))))))
theorem hw_153 : (Jvm.Cond.methodLink "HistoryJudgeModel" (92 : Nat) ({ cls := "HistoryJudgeModel", name := "isOrder", desc := "(I)Z" } : Jvm.MethodName)) ∈ lg := List.mem_append_left _ (List.mem_append_left _ (List.mem_append_left _ (List.mem_append_left _ (List.mem_append_left _ (List.mem_append_left _ (List.mem_append_right _ (List.mem_of_getElem? (i := 33) rfl)))))))
theorem hw_154 : (Jvm.Cond.instanceMethod ({ cls := "HistoryJudgeModel", name := "isOrder", desc := "(I)Z" } : Jvm.MethodName)) ∈ lg := List.mem_append_left _ (List.mem_append_left _ (List.mem_append_left _ (List.mem_append_left _ (List.mem_append_left _ (List.mem_append_left _ (List.mem_append_right _ (List.mem_of_getElem? (i := 34) rfl)))))))
theorem hw_155 : (Jvm.Cond.selects "HistoryJudgeModel" ({ cls := "HistoryJudgeModel", name := "isOrder", desc := "(I)Z" } : Jvm.MethodName) ({ cls := "HistoryJudgeModel", name := "isOrder", desc := "(I)Z" } : Jvm.MethodName)) ∈ lg := List.mem_append_left _ (List.mem_append_left _ (List.mem_append_left _ (List.mem_append_left _ (List.mem_append_left _ (List.mem_append_left _ (List.mem_append_right _ (List.mem_of_getElem? (i := 35) rfl)))))))
theorem hw_156 : (Jvm.Cond.code ({ cls := "HistoryJudgeModel", name := "fits", desc := "(I)Z" } : Jvm.MethodName) prog_9_method_12_code (4 : Nat) (Option.some Jvm.ClassFile.FieldType.boolean)) ∈ lg := List.mem_append_left _ (List.mem_append_left _ (List.mem_append_left _ (List.mem_append_left _ (List.mem_append_left _ (List.mem_append_left _ (List.mem_append_right _ (List.mem_of_getElem? (i := 36) rfl)))))))
theorem hw_157 : (Jvm.Cond.methodLink "HistoryJudgeModel" (95 : Nat) ({ cls := "HistoryJudgeModel", name := "fits", desc := "(I)Z" } : Jvm.MethodName)) ∈ lg := List.mem_append_left _ (List.mem_append_left _ (List.mem_append_left _ (List.mem_append_left _ (List.mem_append_left _ (List.mem_append_left _ (List.mem_append_right _ (List.mem_of_getElem? (i := 37) rfl)))))))
theorem hw_158 : (Jvm.Cond.instanceMethod ({ cls := "HistoryJudgeModel", name := "fits", desc := "(I)Z" } : Jvm.MethodName)) ∈ lg := List.mem_append_left _ (List.mem_append_left _ (List.mem_append_left _ (List.mem_append_left _ (List.mem_append_left _ (List.mem_append_left _ (List.mem_append_right _ (List.mem_of_getElem? (i := 38) rfl)))))))
theorem hw_159 : (Jvm.Cond.selects "HistoryJudgeModel" ({ cls := "HistoryJudgeModel", name := "fits", desc := "(I)Z" } : Jvm.MethodName) ({ cls := "HistoryJudgeModel", name := "fits", desc := "(I)Z" } : Jvm.MethodName)) ∈ lg := List.mem_append_left _ (List.mem_append_left _ (List.mem_append_left _ (List.mem_append_left _ (List.mem_append_left _ (List.mem_append_left _ (List.mem_append_right _ (List.mem_of_getElem? (i := 39) rfl)))))))
theorem hw_160 : (Jvm.Cond.fieldLink "HistoryJudgeModel" (19 : Nat) "HistoryJudgeModel" "argument" "[I") ∈ lg := List.mem_append_left _ (List.mem_append_left _ (List.mem_append_left _ (List.mem_append_left _ (List.mem_append_left _ (List.mem_append_left _ (List.mem_append_right _ (List.mem_of_getElem? (i := 40) rfl)))))))
theorem hw_161 : (Jvm.Cond.code ({ cls := "HistoryJudgeModel", name := "mayStand", desc := "(III)Z" } : Jvm.MethodName) prog_9_method_8_code (4 : Nat) (Option.some Jvm.ClassFile.FieldType.boolean)) ∈ lg := List.mem_append_left _ (List.mem_append_left _ (List.mem_append_left _ (List.mem_append_left _ (List.mem_append_left _ (List.mem_append_left _ (List.mem_append_right _ (List.mem_of_getElem? (i := 41) rfl)))))))
theorem hw_162 : (Jvm.Cond.methodLink "HistoryJudgeModel" (88 : Nat) ({ cls := "HistoryJudgeModel", name := "mayStand", desc := "(III)Z" } : Jvm.MethodName)) ∈ lg := List.mem_append_left _ (List.mem_append_left _ (List.mem_append_left _ (List.mem_append_left _ (List.mem_append_left _ (List.mem_append_left _ (List.mem_append_right _ (List.mem_of_getElem? (i := 42) rfl)))))))
theorem hw_163 : (Jvm.Cond.instanceMethod ({ cls := "HistoryJudgeModel", name := "mayStand", desc := "(III)Z" } : Jvm.MethodName)) ∈ lg := List.mem_append_left _ (List.mem_append_left _ (List.mem_append_left _ (List.mem_append_left _ (List.mem_append_left _ (List.mem_append_left _ (List.mem_append_right _ (List.mem_of_getElem? (i := 43) rfl)))))))
theorem hw_164 : (Jvm.Cond.selects "HistoryJudgeModel" ({ cls := "HistoryJudgeModel", name := "mayStand", desc := "(III)Z" } : Jvm.MethodName) ({ cls := "HistoryJudgeModel", name := "mayStand", desc := "(III)Z" } : Jvm.MethodName)) ∈ lg := List.mem_append_left _ (List.mem_append_left _ (List.mem_append_left _ (List.mem_append_left _ (List.mem_append_left _ (List.mem_append_left _ (List.mem_append_right _ (List.mem_of_getElem? (i := 44) rfl)))))))
theorem hw_165 : (Jvm.Cond.fieldLink "HistoryJudgeModel" (25 : Nat) "HistoryJudgeModel" "kept" "[I") ∈ lg := List.mem_append_left _ (List.mem_append_left _ (List.mem_append_left _ (List.mem_append_left _ (List.mem_append_left _ (List.mem_append_left _ (List.mem_append_right _ (List.mem_of_getElem? (i := 45) rfl)))))))
theorem hw_166 : (Jvm.Cond.fieldLink "HistoryJudgeModel" (22 : Nat) "HistoryJudgeModel" "keptSizes" "[I") ∈ lg := List.mem_append_left _ (List.mem_append_left _ (List.mem_append_left _ (List.mem_append_left _ (List.mem_append_left _ (List.mem_append_left _ (List.mem_append_right _ (List.mem_of_getElem? (i := 46) rfl)))))))
theorem hw_167 : (Jvm.Cond.code ({ cls := "HistoryJudgeModel", name := "copy", desc := "(II)V" } : Jvm.MethodName) prog_9_method_16_code (3 : Nat) (Option.none : Option Jvm.ClassFile.FieldType)) ∈ lg := List.mem_append_left _ (List.mem_append_left _ (List.mem_append_left _ (List.mem_append_left _ (List.mem_append_left _ (List.mem_append_left _ (List.mem_append_right _ (List.mem_of_getElem? (i := 47) rfl)))))))
theorem hw_168 : (Jvm.Cond.methodLink "HistoryJudgeModel" (98 : Nat) ({ cls := "HistoryJudgeModel", name := "copy", desc := "(II)V" } : Jvm.MethodName)) ∈ lg := List.mem_append_left _ (List.mem_append_left _ (List.mem_append_left _ (List.mem_append_left _ (List.mem_append_left _ (List.mem_append_left _ (List.mem_append_right _ (List.mem_of_getElem? (i := 48) rfl)))))))
theorem hw_169 : (Jvm.Cond.instanceMethod ({ cls := "HistoryJudgeModel", name := "copy", desc := "(II)V" } : Jvm.MethodName)) ∈ lg := List.mem_append_left _ (List.mem_append_left _ (List.mem_append_left _ (List.mem_append_left _ (List.mem_append_left _ (List.mem_append_left _ (List.mem_append_right _ (List.mem_of_getElem? (i := 49) rfl)))))))
theorem hw_170 : (Jvm.Cond.selects "HistoryJudgeModel" ({ cls := "HistoryJudgeModel", name := "copy", desc := "(II)V" } : Jvm.MethodName) ({ cls := "HistoryJudgeModel", name := "copy", desc := "(II)V" } : Jvm.MethodName)) ∈ lg := List.mem_append_left _ (List.mem_append_left _ (List.mem_append_left _ (List.mem_append_left _ (List.mem_append_left _ (List.mem_append_left _ (List.mem_append_right _ (List.mem_of_getElem? (i := 50) rfl)))))))
theorem hw_171 : (Jvm.Cond.code ({ cls := "HistoryJudgeModel", name := "within", desc := "(III)Z" } : Jvm.MethodName) prog_9_method_4_code (3 : Nat) (Option.some Jvm.ClassFile.FieldType.boolean)) ∈ lg := List.mem_append_left _ (List.mem_append_left _ (List.mem_append_left _ (List.mem_append_left _ (List.mem_append_left _ (List.mem_append_left _ (List.mem_append_right _ (List.mem_of_getElem? (i := 51) rfl)))))))
theorem hw_172 : (Jvm.Cond.methodLink "HistoryJudgeModel" (102 : Nat) ({ cls := "HistoryJudgeModel", name := "within", desc := "(III)Z" } : Jvm.MethodName)) ∈ lg := List.mem_append_left _ (List.mem_append_left _ (List.mem_append_left _ (List.mem_append_left _ (List.mem_append_left _ (List.mem_append_left _ (List.mem_append_right _ (List.mem_of_getElem? (i := 52) rfl)))))))
theorem hw_173 : (Jvm.Cond.static ({ cls := "HistoryJudgeModel", name := "within", desc := "(III)Z" } : Jvm.MethodName)) ∈ lg := List.mem_append_left _ (List.mem_append_left _ (List.mem_append_left _ (List.mem_append_left _ (List.mem_append_left _ (List.mem_append_left _ (List.mem_append_right _ (List.mem_of_getElem? (i := 53) rfl)))))))
theorem hw_174 : (Jvm.Cond.code ({ cls := "HistoryJudgeModel", name := "fail", desc := "(I)I" } : Jvm.MethodName) prog_9_method_3_code (2 : Nat) (Option.some Jvm.ClassFile.FieldType.int)) ∈ lg := List.mem_append_left _ (List.mem_append_left _ (List.mem_append_left _ (List.mem_append_left _ (List.mem_append_left _ (List.mem_append_left _ (List.mem_append_right _ (List.mem_of_getElem? (i := 54) rfl)))))))
theorem hw_175 : (Jvm.Cond.methodLink "HistoryJudgeModel" (105 : Nat) ({ cls := "HistoryJudgeModel", name := "fail", desc := "(I)I" } : Jvm.MethodName)) ∈ lg := List.mem_append_left _ (List.mem_append_left _ (List.mem_append_left _ (List.mem_append_left _ (List.mem_append_left _ (List.mem_append_left _ (List.mem_append_right _ (List.mem_of_getElem? (i := 55) rfl)))))))
theorem hw_176 : (Jvm.Cond.instanceMethod ({ cls := "HistoryJudgeModel", name := "fail", desc := "(I)I" } : Jvm.MethodName)) ∈ lg := List.mem_append_left _ (List.mem_append_left _ (List.mem_append_left _ (List.mem_append_left _ (List.mem_append_left _ (List.mem_append_left _ (List.mem_append_right _ (List.mem_of_getElem? (i := 56) rfl)))))))
theorem hw_177 : (Jvm.Cond.selects "HistoryJudgeModel" ({ cls := "HistoryJudgeModel", name := "fail", desc := "(I)I" } : Jvm.MethodName) ({ cls := "HistoryJudgeModel", name := "fail", desc := "(I)I" } : Jvm.MethodName)) ∈ lg := List.mem_append_left _ (List.mem_append_left _ (List.mem_append_left _ (List.mem_append_left _ (List.mem_append_left _ (List.mem_append_left _ (List.mem_append_right _ (List.mem_of_getElem? (i := 57) rfl)))))))
theorem hw_178 : (Jvm.Cond.code ({ cls := "HistoryJudgeModel", name := "keep", desc := "()V" } : Jvm.MethodName) prog_9_method_14_code (2 : Nat) (Option.none : Option Jvm.ClassFile.FieldType)) ∈ lg := List.mem_append_left _ (List.mem_append_left _ (List.mem_append_left _ (List.mem_append_left _ (List.mem_append_left _ (List.mem_append_left _ (List.mem_append_right _ (List.mem_of_getElem? (i := 58) rfl)))))))
theorem hw_179 : (Jvm.Cond.methodLink "HistoryJudgeModel" (108 : Nat) ({ cls := "HistoryJudgeModel", name := "keep", desc := "()V" } : Jvm.MethodName)) ∈ lg := List.mem_append_left _ (List.mem_append_left _ (List.mem_append_left _ (List.mem_append_left _ (List.mem_append_left _ (List.mem_append_left _ (List.mem_append_right _ (List.mem_of_getElem? (i := 59) rfl)))))))
theorem hw_180 : (Jvm.Cond.instanceMethod ({ cls := "HistoryJudgeModel", name := "keep", desc := "()V" } : Jvm.MethodName)) ∈ lg := List.mem_append_left _ (List.mem_append_left _ (List.mem_append_left _ (List.mem_append_left _ (List.mem_append_left _ (List.mem_append_right _ (List.mem_of_getElem? (i := 0) rfl))))))
theorem hw_181 : (Jvm.Cond.selects "HistoryJudgeModel" ({ cls := "HistoryJudgeModel", name := "keep", desc := "()V" } : Jvm.MethodName) ({ cls := "HistoryJudgeModel", name := "keep", desc := "()V" } : Jvm.MethodName)) ∈ lg := List.mem_append_left _ (List.mem_append_left _ (List.mem_append_left _ (List.mem_append_left _ (List.mem_append_left _ (List.mem_append_right _ (List.mem_of_getElem? (i := 1) rfl))))))
theorem hw_182 : (Jvm.Cond.code ({ cls := "HistoryJudgeModel", name := "insert", desc := "(IIII)I" } : Jvm.MethodName) prog_9_method_17_code (7 : Nat) (Option.some Jvm.ClassFile.FieldType.int)) ∈ lg := List.mem_append_left _ (List.mem_append_left _ (List.mem_append_left _ (List.mem_append_left _ (List.mem_append_left _ (List.mem_append_right _ (List.mem_of_getElem? (i := 2) rfl))))))
theorem hw_183 : (Jvm.Cond.methodLink "HistoryJudgeModel" (111 : Nat) ({ cls := "HistoryJudgeModel", name := "insert", desc := "(IIII)I" } : Jvm.MethodName)) ∈ lg := List.mem_append_left _ (List.mem_append_left _ (List.mem_append_left _ (List.mem_append_left _ (List.mem_append_left _ (List.mem_append_right _ (List.mem_of_getElem? (i := 3) rfl))))))
theorem hw_184 : (Jvm.Cond.instanceMethod ({ cls := "HistoryJudgeModel", name := "insert", desc := "(IIII)I" } : Jvm.MethodName)) ∈ lg := List.mem_append_left _ (List.mem_append_left _ (List.mem_append_left _ (List.mem_append_left _ (List.mem_append_left _ (List.mem_append_right _ (List.mem_of_getElem? (i := 4) rfl))))))
theorem hw_185 : (Jvm.Cond.selects "HistoryJudgeModel" ({ cls := "HistoryJudgeModel", name := "insert", desc := "(IIII)I" } : Jvm.MethodName) ({ cls := "HistoryJudgeModel", name := "insert", desc := "(IIII)I" } : Jvm.MethodName)) ∈ lg := List.mem_append_left _ (List.mem_append_left _ (List.mem_append_left _ (List.mem_append_left _ (List.mem_append_left _ (List.mem_append_right _ (List.mem_of_getElem? (i := 5) rfl))))))
theorem hw_186 : (Jvm.Cond.code ({ cls := "HistoryJudgeModel", name := "valid", desc := "()Z" } : Jvm.MethodName) prog_9_method_13_code (4 : Nat) (Option.some Jvm.ClassFile.FieldType.boolean)) ∈ lg := List.mem_append_left _ (List.mem_append_left _ (List.mem_append_left _ (List.mem_append_left _ (List.mem_append_left _ (List.mem_append_right _ (List.mem_of_getElem? (i := 6) rfl))))))
theorem hw_187 : (Jvm.Cond.methodLink "HistoryJudgeModel" (115 : Nat) ({ cls := "HistoryJudgeModel", name := "valid", desc := "()Z" } : Jvm.MethodName)) ∈ lg := List.mem_append_left _ (List.mem_append_left _ (List.mem_append_left _ (List.mem_append_left _ (List.mem_append_left _ (List.mem_append_right _ (List.mem_of_getElem? (i := 7) rfl))))))
theorem hw_188 : (Jvm.Cond.instanceMethod ({ cls := "HistoryJudgeModel", name := "valid", desc := "()Z" } : Jvm.MethodName)) ∈ lg := List.mem_append_left _ (List.mem_append_left _ (List.mem_append_left _ (List.mem_append_left _ (List.mem_append_left _ (List.mem_append_right _ (List.mem_of_getElem? (i := 8) rfl))))))
theorem hw_189 : (Jvm.Cond.selects "HistoryJudgeModel" ({ cls := "HistoryJudgeModel", name := "valid", desc := "()Z" } : Jvm.MethodName) ({ cls := "HistoryJudgeModel", name := "valid", desc := "()Z" } : Jvm.MethodName)) ∈ lg := List.mem_append_left _ (List.mem_append_left _ (List.mem_append_left _ (List.mem_append_left _ (List.mem_append_left _ (List.mem_append_right _ (List.mem_of_getElem? (i := 9) rfl))))))
theorem hw_190 : (Jvm.Cond.fieldLink "HistoryJudgeModel" (122 : Nat) "HistoryJudgeModel" "ran" "Z") ∈ lg := List.mem_append_left _ (List.mem_append_left _ (List.mem_append_left _ (List.mem_append_left _ (List.mem_append_left _ (List.mem_append_right _ (List.mem_of_getElem? (i := 10) rfl))))))
theorem hw_191 : (Jvm.Cond.code ({ cls := "HistoryJudgeModel", name := "putBack", desc := "()V" } : Jvm.MethodName) prog_9_method_15_code (2 : Nat) (Option.none : Option Jvm.ClassFile.FieldType)) ∈ lg := List.mem_append_left _ (List.mem_append_left _ (List.mem_append_left _ (List.mem_append_left _ (List.mem_append_left _ (List.mem_append_right _ (List.mem_of_getElem? (i := 11) rfl))))))
theorem hw_192 : (Jvm.Cond.methodLink "HistoryJudgeModel" (119 : Nat) ({ cls := "HistoryJudgeModel", name := "putBack", desc := "()V" } : Jvm.MethodName)) ∈ lg := List.mem_append_left _ (List.mem_append_left _ (List.mem_append_left _ (List.mem_append_left _ (List.mem_append_left _ (List.mem_append_right _ (List.mem_of_getElem? (i := 12) rfl))))))
theorem hw_193 : (Jvm.Cond.instanceMethod ({ cls := "HistoryJudgeModel", name := "putBack", desc := "()V" } : Jvm.MethodName)) ∈ lg := List.mem_append_left _ (List.mem_append_left _ (List.mem_append_left _ (List.mem_append_left _ (List.mem_append_left _ (List.mem_append_right _ (List.mem_of_getElem? (i := 13) rfl))))))
theorem hw_194 : (Jvm.Cond.selects "HistoryJudgeModel" ({ cls := "HistoryJudgeModel", name := "putBack", desc := "()V" } : Jvm.MethodName) ({ cls := "HistoryJudgeModel", name := "putBack", desc := "()V" } : Jvm.MethodName)) ∈ lg := List.mem_append_left _ (List.mem_append_left _ (List.mem_append_left _ (List.mem_append_left _ (List.mem_append_left _ (List.mem_append_right _ (List.mem_of_getElem? (i := 14) rfl))))))
theorem hw_195 : (Jvm.Cond.fieldLink "HistoryJudgeModel" (126 : Nat) "HistoryJudgeModel" "g" "J") ∈ lg := List.mem_append_left _ (List.mem_append_left _ (List.mem_append_left _ (List.mem_append_left _ (List.mem_append_left _ (List.mem_append_right _ (List.mem_of_getElem? (i := 15) rfl))))))
theorem hw_196 : (Jvm.Cond.constantLong "HistoryJudgeModel" (130 : Nat) (6364136223846793005 : Int64)) ∈ lg := List.mem_append_left _ (List.mem_append_left _ (List.mem_append_left _ (List.mem_append_left _ (List.mem_append_left _ (List.mem_append_right _ (List.mem_of_getElem? (i := 16) rfl))))))
theorem hw_197 : (Jvm.Cond.constantLong "HistoryJudgeModel" (132 : Nat) (1442695040888963407 : Int64)) ∈ lg := List.mem_append_left _ (List.mem_append_left _ (List.mem_append_left _ (List.mem_append_left _ (List.mem_append_left _ (List.mem_append_right _ (List.mem_of_getElem? (i := 17) rfl))))))
theorem hw_198 : (Jvm.Cond.code ({ cls := "HistoryJudgeModel", name := "drawn", desc := "(I)I" } : Jvm.MethodName) prog_9_method_22_code (2 : Nat) (Option.some Jvm.ClassFile.FieldType.int)) ∈ lg := List.mem_append_left _ (List.mem_append_left _ (List.mem_append_left _ (List.mem_append_left _ (List.mem_append_left _ (List.mem_append_right _ (List.mem_of_getElem? (i := 18) rfl))))))
theorem hw_199 : (Jvm.Cond.methodLink "HistoryJudgeModel" (134 : Nat) ({ cls := "HistoryJudgeModel", name := "drawn", desc := "(I)I" } : Jvm.MethodName)) ∈ lg := List.mem_append_left _ (List.mem_append_left _ (List.mem_append_left _ (List.mem_append_left _ (List.mem_append_left _ (List.mem_append_right _ (List.mem_of_getElem? (i := 19) rfl))))))
theorem hw_200 : (Jvm.Cond.instanceMethod ({ cls := "HistoryJudgeModel", name := "drawn", desc := "(I)I" } : Jvm.MethodName)) ∈ lg := List.mem_append_left _ (List.mem_append_left _ (List.mem_append_left _ (List.mem_append_left _ (List.mem_append_left _ (List.mem_append_right _ (List.mem_of_getElem? (i := 20) rfl))))))
theorem hw_201 : (Jvm.Cond.selects "HistoryJudgeModel" ({ cls := "HistoryJudgeModel", name := "drawn", desc := "(I)I" } : Jvm.MethodName) ({ cls := "HistoryJudgeModel", name := "drawn", desc := "(I)I" } : Jvm.MethodName)) ∈ lg := List.mem_append_left _ (List.mem_append_left _ (List.mem_append_left _ (List.mem_append_left _ (List.mem_append_left _ (List.mem_append_right _ (List.mem_of_getElem? (i := 21) rfl))))))
theorem hw_202 : (Jvm.Cond.code ({ cls := "HistoryJudgeModel", name := "before", desc := "(III)I" } : Jvm.MethodName) prog_9_method_24_code (6 : Nat) (Option.some Jvm.ClassFile.FieldType.int)) ∈ lg := List.mem_append_left _ (List.mem_append_left _ (List.mem_append_left _ (List.mem_append_left _ (List.mem_append_left _ (List.mem_append_right _ (List.mem_of_getElem? (i := 22) rfl))))))
theorem hw_203 : (Jvm.Cond.methodLink "HistoryJudgeModel" (137 : Nat) ({ cls := "HistoryJudgeModel", name := "before", desc := "(III)I" } : Jvm.MethodName)) ∈ lg := List.mem_append_left _ (List.mem_append_left _ (List.mem_append_left _ (List.mem_append_left _ (List.mem_append_left _ (List.mem_append_right _ (List.mem_of_getElem? (i := 23) rfl))))))
theorem hw_204 : (Jvm.Cond.instanceMethod ({ cls := "HistoryJudgeModel", name := "before", desc := "(III)I" } : Jvm.MethodName)) ∈ lg := List.mem_append_left _ (List.mem_append_left _ (List.mem_append_left _ (List.mem_append_left _ (List.mem_append_left _ (List.mem_append_right _ (List.mem_of_getElem? (i := 24) rfl))))))
theorem hw_205 : (Jvm.Cond.selects "HistoryJudgeModel" ({ cls := "HistoryJudgeModel", name := "before", desc := "(III)I" } : Jvm.MethodName) ({ cls := "HistoryJudgeModel", name := "before", desc := "(III)I" } : Jvm.MethodName)) ∈ lg := List.mem_append_left _ (List.mem_append_left _ (List.mem_append_left _ (List.mem_append_left _ (List.mem_append_left _ (List.mem_append_right _ (List.mem_of_getElem? (i := 25) rfl))))))
theorem hw_206 : (Jvm.Cond.code ({ cls := "HistoryJudgeModel", name := "clear", desc := "()I" } : Jvm.MethodName) prog_9_method_21_code (3 : Nat) (Option.some Jvm.ClassFile.FieldType.int)) ∈ lg := List.mem_append_left _ (List.mem_append_left _ (List.mem_append_left _ (List.mem_append_left _ (List.mem_append_left _ (List.mem_append_right _ (List.mem_of_getElem? (i := 26) rfl))))))
theorem hw_207 : (Jvm.Cond.methodLink "HistoryJudgeModel" (141 : Nat) ({ cls := "HistoryJudgeModel", name := "clear", desc := "()I" } : Jvm.MethodName)) ∈ lg := List.mem_append_left _ (List.mem_append_left _ (List.mem_append_left _ (List.mem_append_left _ (List.mem_append_left _ (List.mem_append_right _ (List.mem_of_getElem? (i := 27) rfl))))))
theorem hw_208 : (Jvm.Cond.instanceMethod ({ cls := "HistoryJudgeModel", name := "clear", desc := "()I" } : Jvm.MethodName)) ∈ lg := List.mem_append_left _ (List.mem_append_left _ (List.mem_append_left _ (List.mem_append_left _ (List.mem_append_left _ (List.mem_append_right _ (List.mem_of_getElem? (i := 28) rfl))))))
theorem hw_209 : (Jvm.Cond.selects "HistoryJudgeModel" ({ cls := "HistoryJudgeModel", name := "clear", desc := "()I" } : Jvm.MethodName) ({ cls := "HistoryJudgeModel", name := "clear", desc := "()I" } : Jvm.MethodName)) ∈ lg := List.mem_append_left _ (List.mem_append_left _ (List.mem_append_left _ (List.mem_append_left _ (List.mem_append_left _ (List.mem_append_right _ (List.mem_of_getElem? (i := 29) rfl))))))
theorem hw_210 : (Jvm.Cond.code ({ cls := "HistoryJudgeModel", name := "tried", desc := "(I)V" } : Jvm.MethodName) prog_9_method_23_code (12 : Nat) (Option.none : Option Jvm.ClassFile.FieldType)) ∈ lg := List.mem_append_left _ (List.mem_append_left _ (List.mem_append_left _ (List.mem_append_left _ (List.mem_append_left _ (List.mem_append_right _ (List.mem_of_getElem? (i := 30) rfl))))))
theorem hw_211 : (Jvm.Cond.methodLink "HistoryJudgeModel" (144 : Nat) ({ cls := "HistoryJudgeModel", name := "tried", desc := "(I)V" } : Jvm.MethodName)) ∈ lg := List.mem_append_left _ (List.mem_append_left _ (List.mem_append_left _ (List.mem_append_left _ (List.mem_append_left _ (List.mem_append_right _ (List.mem_of_getElem? (i := 31) rfl))))))
theorem hw_212 : (Jvm.Cond.instanceMethod ({ cls := "HistoryJudgeModel", name := "tried", desc := "(I)V" } : Jvm.MethodName)) ∈ lg := List.mem_append_left _ (List.mem_append_left _ (List.mem_append_left _ (List.mem_append_left _ (List.mem_append_left _ (List.mem_append_right _ (List.mem_of_getElem? (i := 32) rfl))))))
theorem hw_213 : (Jvm.Cond.selects "HistoryJudgeModel" ({ cls := "HistoryJudgeModel", name := "tried", desc := "(I)V" } : Jvm.MethodName) ({ cls := "HistoryJudgeModel", name := "tried", desc := "(I)V" } : Jvm.MethodName)) ∈ lg := List.mem_append_left _ (List.mem_append_left _ (List.mem_append_left _ (List.mem_append_left _ (List.mem_append_left _ (List.mem_append_right _ (List.mem_of_getElem? (i := 33) rfl))))))
theorem hw_214 : (Jvm.Cond.fieldLink "HistoryJudgeModel" (148 : Nat) "HistoryJudgeModel" "flaws" "I") ∈ lg := List.mem_append_left _ (List.mem_append_left _ (List.mem_append_left _ (List.mem_append_left _ (List.mem_append_left _ (List.mem_append_right _ (List.mem_of_getElem? (i := 34) rfl))))))
theorem hw_215 : (Jvm.Cond.fieldLink "HistoryJudgeModel" (44 : Nat) "HistoryJudgeModel" "number" "[I") ∈ lg := List.mem_append_left _ (List.mem_append_left _ (List.mem_append_left _ (List.mem_append_left _ (List.mem_append_left _ (List.mem_append_right _ (List.mem_of_getElem? (i := 35) rfl))))))
theorem hw_216 : (Jvm.Cond.fieldLink "HistoryJudgeModel" (53 : Nat) "HistoryJudgeModel" "noted" "[I") ∈ lg := List.mem_append_left _ (List.mem_append_left _ (List.mem_append_left _ (List.mem_append_left _ (List.mem_append_left _ (List.mem_append_right _ (List.mem_of_getElem? (i := 36) rfl))))))
theorem hw_217 : (Jvm.Cond.fieldLink "HistoryJudgeModel" (41 : Nat) "HistoryJudgeModel" "answer" "[I") ∈ lg := List.mem_append_left _ (List.mem_append_left _ (List.mem_append_left _ (List.mem_append_left _ (List.mem_append_left _ (List.mem_append_right _ (List.mem_of_getElem? (i := 37) rfl))))))
theorem hw_218 : (Jvm.Cond.fieldLink "HistoryJudgeModel" (35 : Nat) "HistoryJudgeModel" "has" "[I") ∈ lg := List.mem_append_left _ (List.mem_append_left _ (List.mem_append_left _ (List.mem_append_left _ (List.mem_append_left _ (List.mem_append_right _ (List.mem_of_getElem? (i := 38) rfl))))))
theorem hw_219 : (Jvm.Cond.fieldLink "HistoryJudgeModel" (38 : Nat) "HistoryJudgeModel" "isOpen" "[Z") ∈ lg := List.mem_append_left _ (List.mem_append_left _ (List.mem_append_left _ (List.mem_append_left _ (List.mem_append_left _ (List.mem_append_right _ (List.mem_of_getElem? (i := 39) rfl))))))
theorem hw_220 : (Jvm.Cond.code ({ cls := "HistoryJudgeModel", name := "isLate", desc := "(I)Z" } : Jvm.MethodName) prog_9_method_28_code (2 : Nat) (Option.some Jvm.ClassFile.FieldType.boolean)) ∈ lg := List.mem_append_left _ (List.mem_append_left _ (List.mem_append_left _ (List.mem_append_left _ (List.mem_append_left _ (List.mem_append_right _ (List.mem_of_getElem? (i := 40) rfl))))))
theorem hw_221 : (Jvm.Cond.methodLink "HistoryJudgeModel" (151 : Nat) ({ cls := "HistoryJudgeModel", name := "isLate", desc := "(I)Z" } : Jvm.MethodName)) ∈ lg := List.mem_append_left _ (List.mem_append_left _ (List.mem_append_left _ (List.mem_append_left _ (List.mem_append_left _ (List.mem_append_right _ (List.mem_of_getElem? (i := 41) rfl))))))
theorem hw_222 : (Jvm.Cond.instanceMethod ({ cls := "HistoryJudgeModel", name := "isLate", desc := "(I)Z" } : Jvm.MethodName)) ∈ lg := List.mem_append_left _ (List.mem_append_left _ (List.mem_append_left _ (List.mem_append_left _ (List.mem_append_left _ (List.mem_append_right _ (List.mem_of_getElem? (i := 42) rfl))))))
theorem hw_223 : (Jvm.Cond.selects "HistoryJudgeModel" ({ cls := "HistoryJudgeModel", name := "isLate", desc := "(I)Z" } : Jvm.MethodName) ({ cls := "HistoryJudgeModel", name := "isLate", desc := "(I)Z" } : Jvm.MethodName)) ∈ lg := List.mem_append_left _ (List.mem_append_left _ (List.mem_append_left _ (List.mem_append_left _ (List.mem_append_left _ (List.mem_append_right _ (List.mem_of_getElem? (i := 43) rfl))))))
theorem hw_224 : (Jvm.Cond.code ({ cls := "HistoryJudgeModel", name := "twoParts", desc := "(I)Z" } : Jvm.MethodName) prog_9_method_27_code (2 : Nat) (Option.some Jvm.ClassFile.FieldType.boolean)) ∈ lg := List.mem_append_left _ (List.mem_append_left _ (List.mem_append_left _ (List.mem_append_left _ (List.mem_append_left _ (List.mem_append_right _ (List.mem_of_getElem? (i := 44) rfl))))))
theorem hw_225 : (Jvm.Cond.methodLink "HistoryJudgeModel" (154 : Nat) ({ cls := "HistoryJudgeModel", name := "twoParts", desc := "(I)Z" } : Jvm.MethodName)) ∈ lg := List.mem_append_left _ (List.mem_append_left _ (List.mem_append_left _ (List.mem_append_left _ (List.mem_append_left _ (List.mem_append_right _ (List.mem_of_getElem? (i := 45) rfl))))))
theorem hw_226 : (Jvm.Cond.instanceMethod ({ cls := "HistoryJudgeModel", name := "twoParts", desc := "(I)Z" } : Jvm.MethodName)) ∈ lg := List.mem_append_left _ (List.mem_append_left _ (List.mem_append_left _ (List.mem_append_left _ (List.mem_append_left _ (List.mem_append_right _ (List.mem_of_getElem? (i := 46) rfl))))))
theorem hw_227 : (Jvm.Cond.selects "HistoryJudgeModel" ({ cls := "HistoryJudgeModel", name := "twoParts", desc := "(I)Z" } : Jvm.MethodName) ({ cls := "HistoryJudgeModel", name := "twoParts", desc := "(I)Z" } : Jvm.MethodName)) ∈ lg := List.mem_append_left _ (List.mem_append_left _ (List.mem_append_left _ (List.mem_append_left _ (List.mem_append_left _ (List.mem_append_right _ (List.mem_of_getElem? (i := 47) rfl))))))
theorem hw_228 : (Jvm.Cond.fieldLink "HistoryJudgeModel" (50 : Nat) "HistoryJudgeModel" "back" "[I") ∈ lg := List.mem_append_left _ (List.mem_append_left _ (List.mem_append_left _ (List.mem_append_left _ (List.mem_append_left _ (List.mem_append_right _ (List.mem_of_getElem? (i := 48) rfl))))))
theorem hw_229 : (Jvm.Cond.code ({ cls := "HistoryJudgeModel", name := "does", desc := "(I)V" } : Jvm.MethodName) prog_9_method_30_code (5 : Nat) (Option.none : Option Jvm.ClassFile.FieldType)) ∈ lg := List.mem_append_left _ (List.mem_append_left _ (List.mem_append_left _ (List.mem_append_left _ (List.mem_append_left _ (List.mem_append_right _ (List.mem_of_getElem? (i := 49) rfl))))))
theorem hw_230 : (Jvm.Cond.methodLink "HistoryJudgeModel" (163 : Nat) ({ cls := "HistoryJudgeModel", name := "does", desc := "(I)V" } : Jvm.MethodName)) ∈ lg := List.mem_append_left _ (List.mem_append_left _ (List.mem_append_left _ (List.mem_append_left _ (List.mem_append_left _ (List.mem_append_right _ (List.mem_of_getElem? (i := 50) rfl))))))
theorem hw_231 : (Jvm.Cond.instanceMethod ({ cls := "HistoryJudgeModel", name := "does", desc := "(I)V" } : Jvm.MethodName)) ∈ lg := List.mem_append_left _ (List.mem_append_left _ (List.mem_append_left _ (List.mem_append_left _ (List.mem_append_left _ (List.mem_append_right _ (List.mem_of_getElem? (i := 51) rfl))))))
theorem hw_232 : (Jvm.Cond.selects "HistoryJudgeModel" ({ cls := "HistoryJudgeModel", name := "does", desc := "(I)V" } : Jvm.MethodName) ({ cls := "HistoryJudgeModel", name := "does", desc := "(I)V" } : Jvm.MethodName)) ∈ lg := List.mem_append_left _ (List.mem_append_left _ (List.mem_append_left _ (List.mem_append_left _ (List.mem_append_left _ (List.mem_append_right _ (List.mem_of_getElem? (i := 52) rfl))))))
theorem hw_233 : (Jvm.Cond.code ({ cls := "HistoryJudgeModel", name := "source", desc := "(I)I" } : Jvm.MethodName) prog_9_method_29_code (2 : Nat) (Option.some Jvm.ClassFile.FieldType.int)) ∈ lg := List.mem_append_left _ (List.mem_append_left _ (List.mem_append_left _ (List.mem_append_left _ (List.mem_append_left _ (List.mem_append_right _ (List.mem_of_getElem? (i := 53) rfl))))))
theorem hw_234 : (Jvm.Cond.methodLink "HistoryJudgeModel" (160 : Nat) ({ cls := "HistoryJudgeModel", name := "source", desc := "(I)I" } : Jvm.MethodName)) ∈ lg := List.mem_append_left _ (List.mem_append_left _ (List.mem_append_left _ (List.mem_append_left _ (List.mem_append_left _ (List.mem_append_right _ (List.mem_of_getElem? (i := 54) rfl))))))
theorem hw_235 : (Jvm.Cond.instanceMethod ({ cls := "HistoryJudgeModel", name := "source", desc := "(I)I" } : Jvm.MethodName)) ∈ lg := List.mem_append_left _ (List.mem_append_left _ (List.mem_append_left _ (List.mem_append_left _ (List.mem_append_left _ (List.mem_append_right _ (List.mem_of_getElem? (i := 55) rfl))))))
theorem hw_236 : (Jvm.Cond.selects "HistoryJudgeModel" ({ cls := "HistoryJudgeModel", name := "source", desc := "(I)I" } : Jvm.MethodName) ({ cls := "HistoryJudgeModel", name := "source", desc := "(I)I" } : Jvm.MethodName)) ∈ lg := List.mem_append_left _ (List.mem_append_left _ (List.mem_append_left _ (List.mem_append_left _ (List.mem_append_left _ (List.mem_append_right _ (List.mem_of_getElem? (i := 56) rfl))))))
theorem hw_237 : (Jvm.Cond.code ({ cls := "HistoryJudgeModel", name := "calls", desc := "(I)V" } : Jvm.MethodName) prog_9_method_31_code (2 : Nat) (Option.none : Option Jvm.ClassFile.FieldType)) ∈ lg := List.mem_append_left _ (List.mem_append_left _ (List.mem_append_left _ (List.mem_append_left _ (List.mem_append_left _ (List.mem_append_right _ (List.mem_of_getElem? (i := 57) rfl))))))
theorem hw_238 : (Jvm.Cond.methodLink "HistoryJudgeModel" (157 : Nat) ({ cls := "HistoryJudgeModel", name := "calls", desc := "(I)V" } : Jvm.MethodName)) ∈ lg := List.mem_append_left _ (List.mem_append_left _ (List.mem_append_left _ (List.mem_append_left _ (List.mem_append_left _ (List.mem_append_right _ (List.mem_of_getElem? (i := 58) rfl))))))
theorem hw_239 : (Jvm.Cond.instanceMethod ({ cls := "HistoryJudgeModel", name := "calls", desc := "(I)V" } : Jvm.MethodName)) ∈ lg := List.mem_append_left _ (List.mem_append_left _ (List.mem_append_left _ (List.mem_append_left _ (List.mem_append_left _ (List.mem_append_right _ (List.mem_of_getElem? (i := 59) rfl))))))
theorem hw_240 : (Jvm.Cond.selects "HistoryJudgeModel" ({ cls := "HistoryJudgeModel", name := "calls", desc := "(I)V" } : Jvm.MethodName) ({ cls := "HistoryJudgeModel", name := "calls", desc := "(I)V" } : Jvm.MethodName)) ∈ lg := List.mem_append_left _ (List.mem_append_left _ (List.mem_append_left _ (List.mem_append_left _ (List.mem_append_right _ (List.mem_of_getElem? (i := 0) rfl)))))
theorem hw_241 : (Jvm.Cond.fieldLink "HistoryJudgeModel" (47 : Nat) "HistoryJudgeModel" "call" "[I") ∈ lg := List.mem_append_left _ (List.mem_append_left _ (List.mem_append_left _ (List.mem_append_left _ (List.mem_append_right _ (List.mem_of_getElem? (i := 1) rfl)))))
theorem hw_242 : (Jvm.Cond.fieldLink "HistoryJudgeModel" (56 : Nat) "HistoryJudgeModel" "at" "[I") ∈ lg := List.mem_append_left _ (List.mem_append_left _ (List.mem_append_left _ (List.mem_append_left _ (List.mem_append_right _ (List.mem_of_getElem? (i := 2) rfl)))))
theorem hw_243 : (Jvm.Cond.code ({ cls := "HistoryJudgeModel", name := "hasLeft", desc := "(I)Z" } : Jvm.MethodName) prog_9_method_34_code (2 : Nat) (Option.some Jvm.ClassFile.FieldType.boolean)) ∈ lg := List.mem_append_left _ (List.mem_append_left _ (List.mem_append_left _ (List.mem_append_left _ (List.mem_append_right _ (List.mem_of_getElem? (i := 3) rfl)))))
theorem hw_244 : (Jvm.Cond.methodLink "HistoryJudgeModel" (173 : Nat) ({ cls := "HistoryJudgeModel", name := "hasLeft", desc := "(I)Z" } : Jvm.MethodName)) ∈ lg := List.mem_append_left _ (List.mem_append_left _ (List.mem_append_left _ (List.mem_append_left _ (List.mem_append_right _ (List.mem_of_getElem? (i := 4) rfl)))))
theorem hw_245 : (Jvm.Cond.instanceMethod ({ cls := "HistoryJudgeModel", name := "hasLeft", desc := "(I)Z" } : Jvm.MethodName)) ∈ lg := List.mem_append_left _ (List.mem_append_left _ (List.mem_append_left _ (List.mem_append_left _ (List.mem_append_right _ (List.mem_of_getElem? (i := 5) rfl)))))
theorem hw_246 : (Jvm.Cond.selects "HistoryJudgeModel" ({ cls := "HistoryJudgeModel", name := "hasLeft", desc := "(I)Z" } : Jvm.MethodName) ({ cls := "HistoryJudgeModel", name := "hasLeft", desc := "(I)Z" } : Jvm.MethodName)) ∈ lg := List.mem_append_left _ (List.mem_append_left _ (List.mem_append_left _ (List.mem_append_left _ (List.mem_append_right _ (List.mem_of_getElem? (i := 6) rfl)))))
theorem hw_247 : (Jvm.Cond.fieldLink "HistoryJudgeModel" (59 : Nat) "HistoryJudgeModel" "event" "[I") ∈ lg := List.mem_append_left _ (List.mem_append_left _ (List.mem_append_left _ (List.mem_append_left _ (List.mem_append_right _ (List.mem_of_getElem? (i := 7) rfl)))))
theorem hw_248 : (Jvm.Cond.code ({ cls := "HistoryJudgeModel", name := "happens", desc := "(III)V" } : Jvm.MethodName) prog_9_method_33_code (5 : Nat) (Option.none : Option Jvm.ClassFile.FieldType)) ∈ lg := List.mem_append_left _ (List.mem_append_left _ (List.mem_append_left _ (List.mem_append_left _ (List.mem_append_right _ (List.mem_of_getElem? (i := 8) rfl)))))
theorem hw_249 : (Jvm.Cond.methodLink "HistoryJudgeModel" (169 : Nat) ({ cls := "HistoryJudgeModel", name := "happens", desc := "(III)V" } : Jvm.MethodName)) ∈ lg := List.mem_append_left _ (List.mem_append_left _ (List.mem_append_left _ (List.mem_append_left _ (List.mem_append_right _ (List.mem_of_getElem? (i := 9) rfl)))))
theorem hw_250 : (Jvm.Cond.instanceMethod ({ cls := "HistoryJudgeModel", name := "happens", desc := "(III)V" } : Jvm.MethodName)) ∈ lg := List.mem_append_left _ (List.mem_append_left _ (List.mem_append_left _ (List.mem_append_left _ (List.mem_append_right _ (List.mem_of_getElem? (i := 10) rfl)))))
theorem hw_251 : (Jvm.Cond.selects "HistoryJudgeModel" ({ cls := "HistoryJudgeModel", name := "happens", desc := "(III)V" } : Jvm.MethodName) ({ cls := "HistoryJudgeModel", name := "happens", desc := "(III)V" } : Jvm.MethodName)) ∈ lg := List.mem_append_left _ (List.mem_append_left _ (List.mem_append_left _ (List.mem_append_left _ (List.mem_append_right _ (List.mem_of_getElem? (i := 11) rfl)))))
theorem hw_252 : (Jvm.Cond.code ({ cls := "HistoryJudgeModel", name := "events", desc := "(I)I" } : Jvm.MethodName) prog_9_method_32_code (2 : Nat) (Option.some Jvm.ClassFile.FieldType.int)) ∈ lg := List.mem_append_left _ (List.mem_append_left _ (List.mem_append_left _ (List.mem_append_left _ (List.mem_append_right _ (List.mem_of_getElem? (i := 12) rfl)))))
theorem hw_253 : (Jvm.Cond.methodLink "HistoryJudgeModel" (166 : Nat) ({ cls := "HistoryJudgeModel", name := "events", desc := "(I)I" } : Jvm.MethodName)) ∈ lg := List.mem_append_left _ (List.mem_append_left _ (List.mem_append_left _ (List.mem_append_left _ (List.mem_append_right _ (List.mem_of_getElem? (i := 13) rfl)))))
theorem hw_254 : (Jvm.Cond.instanceMethod ({ cls := "HistoryJudgeModel", name := "events", desc := "(I)I" } : Jvm.MethodName)) ∈ lg := List.mem_append_left _ (List.mem_append_left _ (List.mem_append_left _ (List.mem_append_left _ (List.mem_append_right _ (List.mem_of_getElem? (i := 14) rfl)))))
theorem hw_255 : (Jvm.Cond.selects "HistoryJudgeModel" ({ cls := "HistoryJudgeModel", name := "events", desc := "(I)I" } : Jvm.MethodName) ({ cls := "HistoryJudgeModel", name := "events", desc := "(I)I" } : Jvm.MethodName)) ∈ lg := List.mem_append_left _ (List.mem_append_left _ (List.mem_append_left _ (List.mem_append_left _ (List.mem_append_right _ (List.mem_of_getElem? (i := 15) rfl)))))
theorem hw_256 : (Jvm.Cond.fieldLink "HistoryJudgeModel" (28 : Nat) "HistoryJudgeModel" "holds" "[I") ∈ lg := List.mem_append_left _ (List.mem_append_left _ (List.mem_append_left _ (List.mem_append_left _ (List.mem_append_right _ (List.mem_of_getElem? (i := 16) rfl)))))
theorem hw_257 : (Jvm.Cond.code ({ cls := "HistoryJudgeModel", name := "right", desc := "(I)I" } : Jvm.MethodName) prog_9_method_36_code (5 : Nat) (Option.some Jvm.ClassFile.FieldType.int)) ∈ lg := List.mem_append_left _ (List.mem_append_left _ (List.mem_append_left _ (List.mem_append_left _ (List.mem_append_right _ (List.mem_of_getElem? (i := 17) rfl)))))
theorem hw_258 : (Jvm.Cond.methodLink "HistoryJudgeModel" (176 : Nat) ({ cls := "HistoryJudgeModel", name := "right", desc := "(I)I" } : Jvm.MethodName)) ∈ lg := List.mem_append_left _ (List.mem_append_left _ (List.mem_append_left _ (List.mem_append_left _ (List.mem_append_right _ (List.mem_of_getElem? (i := 18) rfl)))))
theorem hw_259 : (Jvm.Cond.instanceMethod ({ cls := "HistoryJudgeModel", name := "right", desc := "(I)I" } : Jvm.MethodName)) ∈ lg := List.mem_append_left _ (List.mem_append_left _ (List.mem_append_left _ (List.mem_append_left _ (List.mem_append_right _ (List.mem_of_getElem? (i := 19) rfl)))))
theorem hw_260 : (Jvm.Cond.selects "HistoryJudgeModel" ({ cls := "HistoryJudgeModel", name := "right", desc := "(I)I" } : Jvm.MethodName) ({ cls := "HistoryJudgeModel", name := "right", desc := "(I)I" } : Jvm.MethodName)) ∈ lg := List.mem_append_left _ (List.mem_append_left _ (List.mem_append_left _ (List.mem_append_left _ (List.mem_append_right _ (List.mem_of_getElem? (i := 20) rfl)))))
theorem hw_261 : (Jvm.Cond.code ({ cls := "HistoryJudgeModel", name := "go", desc := "(I)V" } : Jvm.MethodName) prog_9_method_35_code (4 : Nat) (Option.none : Option Jvm.ClassFile.FieldType)) ∈ lg := List.mem_append_left _ (List.mem_append_left _ (List.mem_append_left _ (List.mem_append_left _ (List.mem_append_right _ (List.mem_of_getElem? (i := 21) rfl)))))
theorem hw_262 : (Jvm.Cond.methodLink "HistoryJudgeModel" (179 : Nat) ({ cls := "HistoryJudgeModel", name := "go", desc := "(I)V" } : Jvm.MethodName)) ∈ lg := List.mem_append_left _ (List.mem_append_left _ (List.mem_append_left _ (List.mem_append_left _ (List.mem_append_right _ (List.mem_of_getElem? (i := 22) rfl)))))
theorem hw_263 : (Jvm.Cond.instanceMethod ({ cls := "HistoryJudgeModel", name := "go", desc := "(I)V" } : Jvm.MethodName)) ∈ lg := List.mem_append_left _ (List.mem_append_left _ (List.mem_append_left _ (List.mem_append_left _ (List.mem_append_right _ (List.mem_of_getElem? (i := 23) rfl)))))
theorem hw_264 : (Jvm.Cond.selects "HistoryJudgeModel" ({ cls := "HistoryJudgeModel", name := "go", desc := "(I)V" } : Jvm.MethodName) ({ cls := "HistoryJudgeModel", name := "go", desc := "(I)V" } : Jvm.MethodName)) ∈ lg := List.mem_append_left _ (List.mem_append_left _ (List.mem_append_left _ (List.mem_append_left _ (List.mem_append_right _ (List.mem_of_getElem? (i := 24) rfl)))))
theorem hw_265 : (Jvm.Cond.fieldLink "HistoryJudgeModel" (182 : Nat) "HistoryJudgeModel" "runs" "I") ∈ lg := List.mem_append_left _ (List.mem_append_left _ (List.mem_append_left _ (List.mem_append_left _ (List.mem_append_right _ (List.mem_of_getElem? (i := 25) rfl)))))
theorem hw_266 : (Jvm.Cond.fieldLink "HistoryJudgeModel" (185 : Nat) "HistoryJudgeModel" "explained" "Z") ∈ lg := List.mem_append_left _ (List.mem_append_left _ (List.mem_append_left _ (List.mem_append_left _ (List.mem_append_right _ (List.mem_of_getElem? (i := 26) rfl)))))
theorem hw_267 : (Jvm.Cond.fieldLink "HistoryJudgeModel" (194 : Nat) "HistoryJudgeModel" "wrong" "I") ∈ lg := List.mem_append_left _ (List.mem_append_left _ (List.mem_append_left _ (List.mem_append_left _ (List.mem_append_right _ (List.mem_of_getElem? (i := 27) rfl)))))
theorem hw_268 : (Jvm.Cond.fieldLink "HistoryJudgeModel" (191 : Nat) "HistoryJudgeModel" "witness" "I") ∈ lg := List.mem_append_left _ (List.mem_append_left _ (List.mem_append_left _ (List.mem_append_left _ (List.mem_append_right _ (List.mem_of_getElem? (i := 28) rfl)))))
theorem hw_269 : (Jvm.Cond.code ({ cls := "HistoryJudgeModel", name := "explains", desc := "(I)Z" } : Jvm.MethodName) prog_9_method_37_code (7 : Nat) (Option.some Jvm.ClassFile.FieldType.boolean)) ∈ lg := List.mem_append_left _ (List.mem_append_left _ (List.mem_append_left _ (List.mem_append_left _ (List.mem_append_right _ (List.mem_of_getElem? (i := 29) rfl)))))
theorem hw_270 : (Jvm.Cond.methodLink "HistoryJudgeModel" (188 : Nat) ({ cls := "HistoryJudgeModel", name := "explains", desc := "(I)Z" } : Jvm.MethodName)) ∈ lg := List.mem_append_left _ (List.mem_append_left _ (List.mem_append_left _ (List.mem_append_left _ (List.mem_append_right _ (List.mem_of_getElem? (i := 30) rfl)))))
theorem hw_271 : (Jvm.Cond.instanceMethod ({ cls := "HistoryJudgeModel", name := "explains", desc := "(I)Z" } : Jvm.MethodName)) ∈ lg := List.mem_append_left _ (List.mem_append_left _ (List.mem_append_left _ (List.mem_append_left _ (List.mem_append_right _ (List.mem_of_getElem? (i := 31) rfl)))))
theorem hw_272 : (Jvm.Cond.selects "HistoryJudgeModel" ({ cls := "HistoryJudgeModel", name := "explains", desc := "(I)Z" } : Jvm.MethodName) ({ cls := "HistoryJudgeModel", name := "explains", desc := "(I)Z" } : Jvm.MethodName)) ∈ lg := List.mem_append_left _ (List.mem_append_left _ (List.mem_append_left _ (List.mem_append_left _ (List.mem_append_right _ (List.mem_of_getElem? (i := 32) rfl)))))
theorem hw_273 : (Jvm.Cond.fieldLink "HistoryJudgeModel" (62 : Nat) "HistoryJudgeModel" "tallies" "[I") ∈ lg := List.mem_append_left _ (List.mem_append_left _ (List.mem_append_left _ (List.mem_append_left _ (List.mem_append_right _ (List.mem_of_getElem? (i := 33) rfl)))))
theorem hw_274 : (Jvm.Cond.code ({ cls := "HistoryJudgeModel", name := "judged", desc := "(I)Z" } : Jvm.MethodName) prog_9_method_38_code (4 : Nat) (Option.some Jvm.ClassFile.FieldType.boolean)) ∈ lg := List.mem_append_left _ (List.mem_append_left _ (List.mem_append_left _ (List.mem_append_left _ (List.mem_append_right _ (List.mem_of_getElem? (i := 34) rfl)))))
theorem hw_275 : (Jvm.Cond.methodLink "HistoryJudgeModel" (197 : Nat) ({ cls := "HistoryJudgeModel", name := "judged", desc := "(I)Z" } : Jvm.MethodName)) ∈ lg := List.mem_append_left _ (List.mem_append_left _ (List.mem_append_left _ (List.mem_append_left _ (List.mem_append_right _ (List.mem_of_getElem? (i := 35) rfl)))))
theorem hw_276 : (Jvm.Cond.instanceMethod ({ cls := "HistoryJudgeModel", name := "judged", desc := "(I)Z" } : Jvm.MethodName)) ∈ lg := List.mem_append_left _ (List.mem_append_left _ (List.mem_append_left _ (List.mem_append_left _ (List.mem_append_right _ (List.mem_of_getElem? (i := 36) rfl)))))
theorem hw_277 : (Jvm.Cond.selects "HistoryJudgeModel" ({ cls := "HistoryJudgeModel", name := "judged", desc := "(I)Z" } : Jvm.MethodName) ({ cls := "HistoryJudgeModel", name := "judged", desc := "(I)Z" } : Jvm.MethodName)) ∈ lg := List.mem_append_left _ (List.mem_append_left _ (List.mem_append_left _ (List.mem_append_left _ (List.mem_append_right _ (List.mem_of_getElem? (i := 37) rfl)))))
theorem hw_278 : (Jvm.Cond.constant "HistoryJudgeModel" (200 : Nat) (2147483647 : Int32)) ∈ lg := List.mem_append_left _ (List.mem_append_left _ (List.mem_append_left _ (List.mem_append_left _ (List.mem_append_right _ (List.mem_of_getElem? (i := 38) rfl)))))
theorem hw_279 : (Jvm.Cond.fieldLink "HistoryJudgeModel" (201 : Nat) "HistoryJudgeModel" "failing" "I") ∈ lg := List.mem_append_left _ (List.mem_append_left _ (List.mem_append_left _ (List.mem_append_left _ (List.mem_append_right _ (List.mem_of_getElem? (i := 39) rfl)))))
theorem hw_280 : (Jvm.Cond.code ({ cls := "HistoryJudgeModel", name := "failed", desc := "(JI)I" } : Jvm.MethodName) prog_9_method_40_code (6 : Nat) (Option.some Jvm.ClassFile.FieldType.int)) ∈ lg := List.mem_append_left _ (List.mem_append_left _ (List.mem_append_left _ (List.mem_append_left _ (List.mem_append_right _ (List.mem_of_getElem? (i := 40) rfl)))))
theorem hw_281 : (Jvm.Cond.methodLink "HistoryJudgeModel" (204 : Nat) ({ cls := "HistoryJudgeModel", name := "failed", desc := "(JI)I" } : Jvm.MethodName)) ∈ lg := List.mem_append_left _ (List.mem_append_left _ (List.mem_append_left _ (List.mem_append_left _ (List.mem_append_right _ (List.mem_of_getElem? (i := 41) rfl)))))
theorem hw_282 : (Jvm.Cond.instanceMethod ({ cls := "HistoryJudgeModel", name := "failed", desc := "(JI)I" } : Jvm.MethodName)) ∈ lg := List.mem_append_left _ (List.mem_append_left _ (List.mem_append_left _ (List.mem_append_left _ (List.mem_append_right _ (List.mem_of_getElem? (i := 42) rfl)))))
theorem hw_283 : (Jvm.Cond.selects "HistoryJudgeModel" ({ cls := "HistoryJudgeModel", name := "failed", desc := "(JI)I" } : Jvm.MethodName) ({ cls := "HistoryJudgeModel", name := "failed", desc := "(JI)I" } : Jvm.MethodName)) ∈ lg := List.mem_append_left _ (List.mem_append_left _ (List.mem_append_left _ (List.mem_append_left _ (List.mem_append_right _ (List.mem_of_getElem? (i := 43) rfl)))))
theorem hw_284 : (Jvm.Cond.code ({ cls := "HistoryJudgeModel", name := "takes", desc := "(ZJI)Z" } : Jvm.MethodName) prog_9_method_42_code (5 : Nat) (Option.some Jvm.ClassFile.FieldType.boolean)) ∈ lg := List.mem_append_left _ (List.mem_append_left _ (List.mem_append_left _ (List.mem_append_left _ (List.mem_append_right _ (List.mem_of_getElem? (i := 44) rfl)))))
theorem hw_285 : (Jvm.Cond.methodLink "HistoryJudgeModel" (211 : Nat) ({ cls := "HistoryJudgeModel", name := "takes", desc := "(ZJI)Z" } : Jvm.MethodName)) ∈ lg := List.mem_append_left _ (List.mem_append_left _ (List.mem_append_left _ (List.mem_append_left _ (List.mem_append_right _ (List.mem_of_getElem? (i := 45) rfl)))))
theorem hw_286 : (Jvm.Cond.instanceMethod ({ cls := "HistoryJudgeModel", name := "takes", desc := "(ZJI)Z" } : Jvm.MethodName)) ∈ lg := List.mem_append_left _ (List.mem_append_left _ (List.mem_append_left _ (List.mem_append_left _ (List.mem_append_right _ (List.mem_of_getElem? (i := 46) rfl)))))
theorem hw_287 : (Jvm.Cond.selects "HistoryJudgeModel" ({ cls := "HistoryJudgeModel", name := "takes", desc := "(ZJI)Z" } : Jvm.MethodName) ({ cls := "HistoryJudgeModel", name := "takes", desc := "(ZJI)Z" } : Jvm.MethodName)) ∈ lg := List.mem_append_left _ (List.mem_append_left _ (List.mem_append_left _ (List.mem_append_left _ (List.mem_append_right _ (List.mem_of_getElem? (i := 47) rfl)))))
theorem hw_288 : (Jvm.Cond.code ({ cls := "HistoryJudgeModel", name := "raise", desc := "(I)V" } : Jvm.MethodName) prog_9_method_19_code (9 : Nat) (Option.none : Option Jvm.ClassFile.FieldType)) ∈ lg := List.mem_append_left _ (List.mem_append_left _ (List.mem_append_left _ (List.mem_append_left _ (List.mem_append_right _ (List.mem_of_getElem? (i := 48) rfl)))))
theorem hw_289 : (Jvm.Cond.methodLink "HistoryJudgeModel" (215 : Nat) ({ cls := "HistoryJudgeModel", name := "raise", desc := "(I)V" } : Jvm.MethodName)) ∈ lg := List.mem_append_left _ (List.mem_append_left _ (List.mem_append_left _ (List.mem_append_left _ (List.mem_append_right _ (List.mem_of_getElem? (i := 49) rfl)))))
theorem hw_290 : (Jvm.Cond.instanceMethod ({ cls := "HistoryJudgeModel", name := "raise", desc := "(I)V" } : Jvm.MethodName)) ∈ lg := List.mem_append_left _ (List.mem_append_left _ (List.mem_append_left _ (List.mem_append_left _ (List.mem_append_right _ (List.mem_of_getElem? (i := 50) rfl)))))
theorem hw_291 : (Jvm.Cond.selects "HistoryJudgeModel" ({ cls := "HistoryJudgeModel", name := "raise", desc := "(I)V" } : Jvm.MethodName) ({ cls := "HistoryJudgeModel", name := "raise", desc := "(I)V" } : Jvm.MethodName)) ∈ lg := List.mem_append_left _ (List.mem_append_left _ (List.mem_append_left _ (List.mem_append_left _ (List.mem_append_right _ (List.mem_of_getElem? (i := 51) rfl)))))
theorem hw_292 : (Jvm.Cond.code ({ cls := "HistoryJudgeModel", name := "leaveOut", desc := "(I)Z" } : Jvm.MethodName) prog_9_method_18_code (4 : Nat) (Option.some Jvm.ClassFile.FieldType.boolean)) ∈ lg := List.mem_append_left _ (List.mem_append_left _ (List.mem_append_left _ (List.mem_append_left _ (List.mem_append_right _ (List.mem_of_getElem? (i := 52) rfl)))))
theorem hw_293 : (Jvm.Cond.methodLink "HistoryJudgeModel" (208 : Nat) ({ cls := "HistoryJudgeModel", name := "leaveOut", desc := "(I)Z" } : Jvm.MethodName)) ∈ lg := List.mem_append_left _ (List.mem_append_left _ (List.mem_append_left _ (List.mem_append_left _ (List.mem_append_right _ (List.mem_of_getElem? (i := 53) rfl)))))
theorem hw_294 : (Jvm.Cond.instanceMethod ({ cls := "HistoryJudgeModel", name := "leaveOut", desc := "(I)Z" } : Jvm.MethodName)) ∈ lg := List.mem_append_left _ (List.mem_append_left _ (List.mem_append_left _ (List.mem_append_left _ (List.mem_append_right _ (List.mem_of_getElem? (i := 54) rfl)))))
theorem hw_295 : (Jvm.Cond.selects "HistoryJudgeModel" ({ cls := "HistoryJudgeModel", name := "leaveOut", desc := "(I)Z" } : Jvm.MethodName) ({ cls := "HistoryJudgeModel", name := "leaveOut", desc := "(I)Z" } : Jvm.MethodName)) ∈ lg := List.mem_append_left _ (List.mem_append_left _ (List.mem_append_left _ (List.mem_append_left _ (List.mem_append_right _ (List.mem_of_getElem? (i := 55) rfl)))))
theorem hw_296 : (Jvm.Cond.code ({ cls := "HistoryJudgeModel", name := "smaller", desc := "(JI)Z" } : Jvm.MethodName) prog_9_method_43_code (7 : Nat) (Option.some Jvm.ClassFile.FieldType.boolean)) ∈ lg := List.mem_append_left _ (List.mem_append_left _ (List.mem_append_left _ (List.mem_append_left _ (List.mem_append_right _ (List.mem_of_getElem? (i := 56) rfl)))))
theorem hw_297 : (Jvm.Cond.methodLink "HistoryJudgeModel" (218 : Nat) ({ cls := "HistoryJudgeModel", name := "smaller", desc := "(JI)Z" } : Jvm.MethodName)) ∈ lg := List.mem_append_left _ (List.mem_append_left _ (List.mem_append_left _ (List.mem_append_left _ (List.mem_append_right _ (List.mem_of_getElem? (i := 57) rfl)))))
theorem hw_298 : (Jvm.Cond.instanceMethod ({ cls := "HistoryJudgeModel", name := "smaller", desc := "(JI)Z" } : Jvm.MethodName)) ∈ lg := List.mem_append_left _ (List.mem_append_left _ (List.mem_append_left _ (List.mem_append_left _ (List.mem_append_right _ (List.mem_of_getElem? (i := 58) rfl)))))
theorem hw_299 : (Jvm.Cond.selects "HistoryJudgeModel" ({ cls := "HistoryJudgeModel", name := "smaller", desc := "(JI)Z" } : Jvm.MethodName) ({ cls := "HistoryJudgeModel", name := "smaller", desc := "(JI)Z" } : Jvm.MethodName)) ∈ lg := List.mem_append_left _ (List.mem_append_left _ (List.mem_append_left _ (List.mem_append_left _ (List.mem_append_right _ (List.mem_of_getElem? (i := 59) rfl)))))
theorem hw_300 : (Jvm.Cond.fieldLink "HistoryJudgeModel" (222 : Nat) "HistoryJudgeModel" "taken" "I") ∈ lg := List.mem_append_left _ (List.mem_append_left _ (List.mem_append_left _ (List.mem_append_right _ (List.mem_of_getElem? (i := 0) rfl))))
theorem hw_301 : (Jvm.Cond.fieldLink "HistoryJudge$Tester" (39 : Nat) "HistoryJudge$Tester" "schedule" "I") ∈ lg := List.mem_append_left _ (List.mem_append_left _ (List.mem_append_left _ (List.mem_append_right _ (List.mem_of_getElem? (i := 1) rfl))))
theorem hw_302 : (Jvm.Cond.fieldLink "HistoryJudge$Tester" (12 : Nat) "HistoryJudge$Tester" "machine" "LHistoryJudge$Machine;") ∈ lg := List.mem_append_left _ (List.mem_append_left _ (List.mem_append_left _ (List.mem_append_right _ (List.mem_of_getElem? (i := 2) rfl))))
theorem hw_303 : (Jvm.Cond.fieldLink "HistoryJudge$Tester" (29 : Nat) "HistoryJudge$Tester" "flawBits" "I") ∈ lg := List.mem_append_left _ (List.mem_append_left _ (List.mem_append_left _ (List.mem_append_right _ (List.mem_of_getElem? (i := 3) rfl))))
theorem hw_304 : (Jvm.Cond.fieldLink "HistoryJudge$Machine" (39 : Nat) "HistoryJudge$Machine" "flawBits" "I") ∈ lg := List.mem_append_left _ (List.mem_append_left _ (List.mem_append_left _ (List.mem_append_right _ (List.mem_of_getElem? (i := 4) rfl))))
theorem hw_305 : (Jvm.Cond.fieldLink "HistoryJudge$Machine" (26 : Nat) "HistoryJudge$Machine" "cells" "I") ∈ lg := List.mem_append_left _ (List.mem_append_left _ (List.mem_append_left _ (List.mem_append_right _ (List.mem_of_getElem? (i := 5) rfl))))
theorem hw_306 : (Jvm.Cond.methodLink "HistoryJudge$Machine" (48 : Nat) ({ cls := "HistoryJudge$Program", name := "end", desc := "(I)I" } : Jvm.MethodName)) ∈ lg := List.mem_append_left _ (List.mem_append_left _ (List.mem_append_left _ (List.mem_append_right _ (List.mem_of_getElem? (i := 6) rfl))))
theorem hw_307 : (Jvm.Cond.fieldLink "HistoryJudge$Machine" (30 : Nat) "HistoryJudge$Machine" "nextCommand" "[I") ∈ lg := List.mem_append_left _ (List.mem_append_left _ (List.mem_append_left _ (List.mem_append_right _ (List.mem_of_getElem? (i := 7) rfl))))
theorem hw_308 : (Jvm.Cond.fieldLink "HistoryJudge$Machine" (55 : Nat) "HistoryJudge$Program" "kinds" "[I") ∈ lg := List.mem_append_left _ (List.mem_append_left _ (List.mem_append_left _ (List.mem_append_right _ (List.mem_of_getElem? (i := 8) rfl))))
theorem hw_309 : (Jvm.Cond.fieldLink "HistoryJudge$Machine" (58 : Nat) "HistoryJudge$Program" "cells" "[I") ∈ lg := List.mem_append_left _ (List.mem_append_left _ (List.mem_append_left _ (List.mem_append_right _ (List.mem_of_getElem? (i := 9) rfl))))
theorem hw_310 : (Jvm.Cond.fieldLink "HistoryJudge$Machine" (33 : Nat) "HistoryJudge$Machine" "nextEvent" "[I") ∈ lg := List.mem_append_left _ (List.mem_append_left _ (List.mem_append_left _ (List.mem_append_right _ (List.mem_of_getElem? (i := 10) rfl))))
theorem hw_311 : (Jvm.Cond.fieldLink "HistoryJudge$Machine" (18 : Nat) "HistoryJudge$Machine" "calls" "[I") ∈ lg := List.mem_append_left _ (List.mem_append_left _ (List.mem_append_left _ (List.mem_append_right _ (List.mem_of_getElem? (i := 11) rfl))))
theorem hw_312 : (Jvm.Cond.fieldLink "HistoryJudge$Machine" (15 : Nat) "HistoryJudge$Machine" "numbers" "[I") ∈ lg := List.mem_append_left _ (List.mem_append_left _ (List.mem_append_left _ (List.mem_append_right _ (List.mem_of_getElem? (i := 12) rfl))))
theorem hw_313 : (Jvm.Cond.fieldLink "HistoryJudge$Machine" (60 : Nat) "HistoryJudge$Program" "arguments" "[I") ∈ lg := List.mem_append_left _ (List.mem_append_left _ (List.mem_append_left _ (List.mem_append_right _ (List.mem_of_getElem? (i := 13) rfl))))
theorem hw_314 : (Jvm.Cond.fieldLink "HistoryJudge$Machine" (9 : Nat) "HistoryJudge$Machine" "answers" "[I") ∈ lg := List.mem_append_left _ (List.mem_append_left _ (List.mem_append_left _ (List.mem_append_right _ (List.mem_of_getElem? (i := 14) rfl))))
theorem hw_315 : (Jvm.Cond.code ({ cls := "HistoryJudge$Machine", name := "numberOf", desc := "(I)I" } : Jvm.MethodName) prog_4_method_4_code (2 : Nat) (Option.some Jvm.ClassFile.FieldType.int)) ∈ lg := List.mem_append_left _ (List.mem_append_left _ (List.mem_append_left _ (List.mem_append_right _ (List.mem_of_getElem? (i := 15) rfl))))
theorem hw_316 : (Jvm.Cond.methodLink "HistoryJudge$Machine" (63 : Nat) ({ cls := "HistoryJudge$Machine", name := "numberOf", desc := "(I)I" } : Jvm.MethodName)) ∈ lg := List.mem_append_left _ (List.mem_append_left _ (List.mem_append_left _ (List.mem_append_right _ (List.mem_of_getElem? (i := 16) rfl))))
theorem hw_317 : (Jvm.Cond.instanceMethod ({ cls := "HistoryJudge$Machine", name := "numberOf", desc := "(I)I" } : Jvm.MethodName)) ∈ lg := List.mem_append_left _ (List.mem_append_left _ (List.mem_append_left _ (List.mem_append_right _ (List.mem_of_getElem? (i := 17) rfl))))
theorem hw_318 : (Jvm.Cond.selects "HistoryJudge$Machine" ({ cls := "HistoryJudge$Machine", name := "numberOf", desc := "(I)I" } : Jvm.MethodName) ({ cls := "HistoryJudge$Machine", name := "numberOf", desc := "(I)I" } : Jvm.MethodName)) ∈ lg := List.mem_append_left _ (List.mem_append_left _ (List.mem_append_left _ (List.mem_append_right _ (List.mem_of_getElem? (i := 18) rfl))))
theorem hw_319 : (Jvm.Cond.initialized "HistoryJudge$Machine") ∈ lg := List.mem_append_left _ (List.mem_append_left _ (List.mem_append_left _ (List.mem_append_right _ (List.mem_of_getElem? (i := 19) rfl))))
theorem hw_320 : (Jvm.Cond.code ({ cls := "HistoryJudge$Machine", name := "isSplit", desc := "(I)Z" } : Jvm.MethodName) prog_4_method_5_code (2 : Nat) (Option.some Jvm.ClassFile.FieldType.boolean)) ∈ lg := List.mem_append_left _ (List.mem_append_left _ (List.mem_append_left _ (List.mem_append_right _ (List.mem_of_getElem? (i := 20) rfl))))
theorem hw_321 : (Jvm.Cond.methodLink "HistoryJudge$Machine" (66 : Nat) ({ cls := "HistoryJudge$Machine", name := "isSplit", desc := "(I)Z" } : Jvm.MethodName)) ∈ lg := List.mem_append_left _ (List.mem_append_left _ (List.mem_append_left _ (List.mem_append_right _ (List.mem_of_getElem? (i := 21) rfl))))
theorem hw_322 : (Jvm.Cond.instanceMethod ({ cls := "HistoryJudge$Machine", name := "isSplit", desc := "(I)Z" } : Jvm.MethodName)) ∈ lg := List.mem_append_left _ (List.mem_append_left _ (List.mem_append_left _ (List.mem_append_right _ (List.mem_of_getElem? (i := 22) rfl))))
theorem hw_323 : (Jvm.Cond.selects "HistoryJudge$Machine" ({ cls := "HistoryJudge$Machine", name := "isSplit", desc := "(I)Z" } : Jvm.MethodName) ({ cls := "HistoryJudge$Machine", name := "isSplit", desc := "(I)Z" } : Jvm.MethodName)) ∈ lg := List.mem_append_left _ (List.mem_append_left _ (List.mem_append_left _ (List.mem_append_right _ (List.mem_of_getElem? (i := 23) rfl))))
theorem hw_324 : (Jvm.Cond.fieldLink "HistoryJudge$Machine" (36 : Nat) "HistoryJudge$Machine" "noted" "[I") ∈ lg := List.mem_append_left _ (List.mem_append_left _ (List.mem_append_left _ (List.mem_append_right _ (List.mem_of_getElem? (i := 24) rfl))))
theorem hw_325 : (Jvm.Cond.methodLink "HistoryJudge$Machine" (73 : Nat) ({ cls := "HistoryJudge$Model", name := "held", desc := "(II)I" } : Jvm.MethodName)) ∈ lg := List.mem_append_left _ (List.mem_append_left _ (List.mem_append_left _ (List.mem_append_right _ (List.mem_of_getElem? (i := 25) rfl))))
theorem hw_326 : (Jvm.Cond.methodLink "HistoryJudge$Machine" (70 : Nat) ({ cls := "HistoryJudge$Model", name := "source", desc := "(I)I" } : Jvm.MethodName)) ∈ lg := List.mem_append_left _ (List.mem_append_left _ (List.mem_append_left _ (List.mem_append_right _ (List.mem_of_getElem? (i := 26) rfl))))
theorem hw_327 : (Jvm.Cond.code ({ cls := "HistoryJudge$Model", name := "answer", desc := "(IIII)I" } : Jvm.MethodName) prog_5_method_7_code (4 : Nat) (Option.some Jvm.ClassFile.FieldType.int)) ∈ lg := List.mem_append_left _ (List.mem_append_left _ (List.mem_append_left _ (List.mem_append_right _ (List.mem_of_getElem? (i := 27) rfl))))
theorem hw_328 : (Jvm.Cond.methodLink "HistoryJudge$Machine" (92 : Nat) ({ cls := "HistoryJudge$Model", name := "answer", desc := "(IIII)I" } : Jvm.MethodName)) ∈ lg := List.mem_append_left _ (List.mem_append_left _ (List.mem_append_left _ (List.mem_append_right _ (List.mem_of_getElem? (i := 28) rfl))))
theorem hw_329 : (Jvm.Cond.static ({ cls := "HistoryJudge$Model", name := "answer", desc := "(IIII)I" } : Jvm.MethodName)) ∈ lg := List.mem_append_left _ (List.mem_append_left _ (List.mem_append_left _ (List.mem_append_right _ (List.mem_of_getElem? (i := 29) rfl))))
theorem hw_330 : (Jvm.Cond.code ({ cls := "HistoryJudge$Machine", name := "isLate", desc := "(I)Z" } : Jvm.MethodName) prog_4_method_6_code (2 : Nat) (Option.some Jvm.ClassFile.FieldType.boolean)) ∈ lg := List.mem_append_left _ (List.mem_append_left _ (List.mem_append_left _ (List.mem_append_right _ (List.mem_of_getElem? (i := 30) rfl))))
theorem hw_331 : (Jvm.Cond.methodLink "HistoryJudge$Machine" (85 : Nat) ({ cls := "HistoryJudge$Machine", name := "isLate", desc := "(I)Z" } : Jvm.MethodName)) ∈ lg := List.mem_append_left _ (List.mem_append_left _ (List.mem_append_left _ (List.mem_append_right _ (List.mem_of_getElem? (i := 31) rfl))))
theorem hw_332 : (Jvm.Cond.instanceMethod ({ cls := "HistoryJudge$Machine", name := "isLate", desc := "(I)Z" } : Jvm.MethodName)) ∈ lg := List.mem_append_left _ (List.mem_append_left _ (List.mem_append_left _ (List.mem_append_right _ (List.mem_of_getElem? (i := 32) rfl))))
theorem hw_333 : (Jvm.Cond.selects "HistoryJudge$Machine" ({ cls := "HistoryJudge$Machine", name := "isLate", desc := "(I)Z" } : Jvm.MethodName) ({ cls := "HistoryJudge$Machine", name := "isLate", desc := "(I)Z" } : Jvm.MethodName)) ∈ lg := List.mem_append_left _ (List.mem_append_left _ (List.mem_append_left _ (List.mem_append_right _ (List.mem_of_getElem? (i := 33) rfl))))
theorem hw_334 : (Jvm.Cond.methodLink "HistoryJudge$Machine" (88 : Nat) ({ cls := "HistoryJudge$Model", name := "after", desc := "(IIII)I" } : Jvm.MethodName)) ∈ lg := List.mem_append_left _ (List.mem_append_left _ (List.mem_append_left _ (List.mem_append_right _ (List.mem_of_getElem? (i := 34) rfl))))
theorem hw_335 : (Jvm.Cond.code ({ cls := "HistoryJudge$Machine", name := "act", desc := "(III)V" } : Jvm.MethodName) prog_4_method_7_code (4 : Nat) (Option.none : Option Jvm.ClassFile.FieldType)) ∈ lg := List.mem_append_left _ (List.mem_append_left _ (List.mem_append_left _ (List.mem_append_right _ (List.mem_of_getElem? (i := 35) rfl))))
theorem hw_336 : (Jvm.Cond.methodLink "HistoryJudge$Machine" (81 : Nat) ({ cls := "HistoryJudge$Machine", name := "act", desc := "(III)V" } : Jvm.MethodName)) ∈ lg := List.mem_append_left _ (List.mem_append_left _ (List.mem_append_left _ (List.mem_append_right _ (List.mem_of_getElem? (i := 36) rfl))))
theorem hw_337 : (Jvm.Cond.instanceMethod ({ cls := "HistoryJudge$Machine", name := "act", desc := "(III)V" } : Jvm.MethodName)) ∈ lg := List.mem_append_left _ (List.mem_append_left _ (List.mem_append_left _ (List.mem_append_right _ (List.mem_of_getElem? (i := 37) rfl))))
theorem hw_338 : (Jvm.Cond.selects "HistoryJudge$Machine" ({ cls := "HistoryJudge$Machine", name := "act", desc := "(III)V" } : Jvm.MethodName) ({ cls := "HistoryJudge$Machine", name := "act", desc := "(III)V" } : Jvm.MethodName)) ∈ lg := List.mem_append_left _ (List.mem_append_left _ (List.mem_append_left _ (List.mem_append_right _ (List.mem_of_getElem? (i := 38) rfl))))
theorem hw_339 : (Jvm.Cond.code ({ cls := "HistoryJudge$Machine", name := "actByNote", desc := "(IIII)V" } : Jvm.MethodName) prog_4_method_8_code (6 : Nat) (Option.none : Option Jvm.ClassFile.FieldType)) ∈ lg := List.mem_append_left _ (List.mem_append_left _ (List.mem_append_left _ (List.mem_append_right _ (List.mem_of_getElem? (i := 39) rfl))))
theorem hw_340 : (Jvm.Cond.methodLink "HistoryJudge$Machine" (77 : Nat) ({ cls := "HistoryJudge$Machine", name := "actByNote", desc := "(IIII)V" } : Jvm.MethodName)) ∈ lg := List.mem_append_left _ (List.mem_append_left _ (List.mem_append_left _ (List.mem_append_right _ (List.mem_of_getElem? (i := 40) rfl))))
theorem hw_341 : (Jvm.Cond.instanceMethod ({ cls := "HistoryJudge$Machine", name := "actByNote", desc := "(IIII)V" } : Jvm.MethodName)) ∈ lg := List.mem_append_left _ (List.mem_append_left _ (List.mem_append_left _ (List.mem_append_right _ (List.mem_of_getElem? (i := 41) rfl))))
theorem hw_342 : (Jvm.Cond.selects "HistoryJudge$Machine" ({ cls := "HistoryJudge$Machine", name := "actByNote", desc := "(IIII)V" } : Jvm.MethodName) ({ cls := "HistoryJudge$Machine", name := "actByNote", desc := "(IIII)V" } : Jvm.MethodName)) ∈ lg := List.mem_append_left _ (List.mem_append_left _ (List.mem_append_left _ (List.mem_append_right _ (List.mem_of_getElem? (i := 42) rfl))))
theorem hw_343 : (Jvm.Cond.fieldLink "HistoryJudge$Machine" (21 : Nat) "HistoryJudge$Machine" "returns" "[I") ∈ lg := List.mem_append_left _ (List.mem_append_left _ (List.mem_append_left _ (List.mem_append_right _ (List.mem_of_getElem? (i := 43) rfl))))
theorem hw_344 : (Jvm.Cond.code ({ cls := "HistoryJudge$Machine", name := "step", desc := "(LHistoryJudge$Program;II)V" } : Jvm.MethodName) prog_4_method_3_code (7 : Nat) (Option.none : Option Jvm.ClassFile.FieldType)) ∈ lg := List.mem_append_left _ (List.mem_append_left _ (List.mem_append_left _ (List.mem_append_right _ (List.mem_of_getElem? (i := 44) rfl))))
theorem hw_345 : (Jvm.Cond.methodLink "HistoryJudge$Machine" (51 : Nat) ({ cls := "HistoryJudge$Machine", name := "step", desc := "(LHistoryJudge$Program;II)V" } : Jvm.MethodName)) ∈ lg := List.mem_append_left _ (List.mem_append_left _ (List.mem_append_left _ (List.mem_append_right _ (List.mem_of_getElem? (i := 45) rfl))))
theorem hw_346 : (Jvm.Cond.instanceMethod ({ cls := "HistoryJudge$Machine", name := "step", desc := "(LHistoryJudge$Program;II)V" } : Jvm.MethodName)) ∈ lg := List.mem_append_left _ (List.mem_append_left _ (List.mem_append_left _ (List.mem_append_right _ (List.mem_of_getElem? (i := 46) rfl))))
theorem hw_347 : (Jvm.Cond.selects "HistoryJudge$Machine" ({ cls := "HistoryJudge$Machine", name := "step", desc := "(LHistoryJudge$Program;II)V" } : Jvm.MethodName) ({ cls := "HistoryJudge$Machine", name := "step", desc := "(LHistoryJudge$Program;II)V" } : Jvm.MethodName)) ∈ lg := List.mem_append_left _ (List.mem_append_left _ (List.mem_append_left _ (List.mem_append_right _ (List.mem_of_getElem? (i := 47) rfl))))
theorem hw_348 : (Jvm.Cond.methodLink "HistoryJudge$Machine" (42 : Nat) ({ cls := "HistoryJudge$Program", name := "start", desc := "(I)I" } : Jvm.MethodName)) ∈ lg := List.mem_append_left _ (List.mem_append_left _ (List.mem_append_left _ (List.mem_append_right _ (List.mem_of_getElem? (i := 48) rfl))))
theorem hw_349 : (Jvm.Cond.code ({ cls := "HistoryJudge$Machine", name := "perform", desc := "(LHistoryJudge$Program;II)V" } : Jvm.MethodName) prog_4_method_2_code (11 : Nat) (Option.none : Option Jvm.ClassFile.FieldType)) ∈ lg := List.mem_append_left _ (List.mem_append_left _ (List.mem_append_left _ (List.mem_append_right _ (List.mem_of_getElem? (i := 49) rfl))))
theorem hw_350 : (Jvm.Cond.methodLink "HistoryJudge$Tester" (53 : Nat) ({ cls := "HistoryJudge$Machine", name := "perform", desc := "(LHistoryJudge$Program;II)V" } : Jvm.MethodName)) ∈ lg := List.mem_append_left _ (List.mem_append_left _ (List.mem_append_left _ (List.mem_append_right _ (List.mem_of_getElem? (i := 50) rfl))))
theorem hw_351 : (Jvm.Cond.instanceMethod ({ cls := "HistoryJudge$Machine", name := "perform", desc := "(LHistoryJudge$Program;II)V" } : Jvm.MethodName)) ∈ lg := List.mem_append_left _ (List.mem_append_left _ (List.mem_append_left _ (List.mem_append_right _ (List.mem_of_getElem? (i := 51) rfl))))
theorem hw_352 : (Jvm.Cond.selects "HistoryJudge$Machine" ({ cls := "HistoryJudge$Machine", name := "perform", desc := "(LHistoryJudge$Program;II)V" } : Jvm.MethodName) ({ cls := "HistoryJudge$Machine", name := "perform", desc := "(LHistoryJudge$Program;II)V" } : Jvm.MethodName)) ∈ lg := List.mem_append_left _ (List.mem_append_left _ (List.mem_append_left _ (List.mem_append_right _ (List.mem_of_getElem? (i := 52) rfl))))
theorem hw_353 : (Jvm.Cond.fieldLink "HistoryJudge$Tester" (21 : Nat) "HistoryJudge$Tester" "judge" "LHistoryJudge$Judge;") ∈ lg := List.mem_append_left _ (List.mem_append_left _ (List.mem_append_left _ (List.mem_append_right _ (List.mem_of_getElem? (i := 53) rfl))))
theorem hw_354 : (Jvm.Cond.methodLink "HistoryJudge$Judge" (17 : Nat) ({ cls := "HistoryJudge$Program", name := "end", desc := "(I)I" } : Jvm.MethodName)) ∈ lg := List.mem_append_left _ (List.mem_append_left _ (List.mem_append_left _ (List.mem_append_right _ (List.mem_of_getElem? (i := 54) rfl))))
theorem hw_355 : (Jvm.Cond.methodLink "HistoryJudge$Judge" (31 : Nat) ({ cls := "HistoryJudge$Program", name := "start", desc := "(I)I" } : Jvm.MethodName)) ∈ lg := List.mem_append_left _ (List.mem_append_left _ (List.mem_append_left _ (List.mem_append_right _ (List.mem_of_getElem? (i := 55) rfl))))
theorem hw_356 : (Jvm.Cond.fieldLink "HistoryJudge$Judge" (9 : Nat) "HistoryJudge$Judge" "witness" "[I") ∈ lg := List.mem_append_left _ (List.mem_append_left _ (List.mem_append_left _ (List.mem_append_right _ (List.mem_of_getElem? (i := 56) rfl))))
theorem hw_357 : (Jvm.Cond.fieldLink "HistoryJudge$Judge" (46 : Nat) "HistoryJudge$Program" "kinds" "[I") ∈ lg := List.mem_append_left _ (List.mem_append_left _ (List.mem_append_left _ (List.mem_append_right _ (List.mem_of_getElem? (i := 57) rfl))))
theorem hw_358 : (Jvm.Cond.fieldLink "HistoryJudge$Judge" (49 : Nat) "HistoryJudge$Program" "cells" "[I") ∈ lg := List.mem_append_left _ (List.mem_append_left _ (List.mem_append_left _ (List.mem_append_right _ (List.mem_of_getElem? (i := 58) rfl))))
theorem hw_359 : (Jvm.Cond.fieldLink "HistoryJudge$Judge" (52 : Nat) "HistoryJudge$Machine" "numbers" "[I") ∈ lg := List.mem_append_left _ (List.mem_append_left _ (List.mem_append_left _ (List.mem_append_right _ (List.mem_of_getElem? (i := 59) rfl))))
theorem hw_360 : (Jvm.Cond.methodLink "HistoryJudge$Judge" (55 : Nat) ({ cls := "HistoryJudge$Model", name := "answer", desc := "(IIII)I" } : Jvm.MethodName)) ∈ lg := List.mem_append_left _ (List.mem_append_left _ (List.mem_append_right _ (List.mem_of_getElem? (i := 0) rfl)))
theorem hw_361 : (Jvm.Cond.fieldLink "HistoryJudge$Judge" (59 : Nat) "HistoryJudge$Machine" "answers" "[I") ∈ lg := List.mem_append_left _ (List.mem_append_left _ (List.mem_append_right _ (List.mem_of_getElem? (i := 1) rfl)))
theorem hw_362 : (Jvm.Cond.code ({ cls := "HistoryJudge$Judge", name := "answersSo", desc := "(LHistoryJudge$Program;LHistoryJudge$Machine;II)Z" } : Jvm.MethodName) prog_3_method_4_code (5 : Nat) (Option.some Jvm.ClassFile.FieldType.boolean)) ∈ lg := List.mem_append_left _ (List.mem_append_left _ (List.mem_append_right _ (List.mem_of_getElem? (i := 2) rfl)))
theorem hw_363 : (Jvm.Cond.methodLink "HistoryJudge$Judge" (23 : Nat) ({ cls := "HistoryJudge$Judge", name := "answersSo", desc := "(LHistoryJudge$Program;LHistoryJudge$Machine;II)Z" } : Jvm.MethodName)) ∈ lg := List.mem_append_left _ (List.mem_append_left _ (List.mem_append_right _ (List.mem_of_getElem? (i := 3) rfl)))
theorem hw_364 : (Jvm.Cond.static ({ cls := "HistoryJudge$Judge", name := "answersSo", desc := "(LHistoryJudge$Program;LHistoryJudge$Machine;II)Z" } : Jvm.MethodName)) ∈ lg := List.mem_append_left _ (List.mem_append_left _ (List.mem_append_right _ (List.mem_of_getElem? (i := 4) rfl)))
theorem hw_365 : (Jvm.Cond.initialized "HistoryJudge$Judge") ∈ lg := List.mem_append_left _ (List.mem_append_left _ (List.mem_append_right _ (List.mem_of_getElem? (i := 5) rfl)))
theorem hw_366 : (Jvm.Cond.methodLink "HistoryJudge$Judge" (62 : Nat) ({ cls := "HistoryJudge$Model", name := "after", desc := "(IIII)I" } : Jvm.MethodName)) ∈ lg := List.mem_append_left _ (List.mem_append_left _ (List.mem_append_right _ (List.mem_of_getElem? (i := 6) rfl)))
theorem hw_367 : (Jvm.Cond.code ({ cls := "HistoryJudge$Judge", name := "after", desc := "(LHistoryJudge$Program;LHistoryJudge$Machine;II)I" } : Jvm.MethodName) prog_3_method_5_code (4 : Nat) (Option.some Jvm.ClassFile.FieldType.int)) ∈ lg := List.mem_append_left _ (List.mem_append_left _ (List.mem_append_right _ (List.mem_of_getElem? (i := 7) rfl)))
theorem hw_368 : (Jvm.Cond.methodLink "HistoryJudge$Judge" (27 : Nat) ({ cls := "HistoryJudge$Judge", name := "after", desc := "(LHistoryJudge$Program;LHistoryJudge$Machine;II)I" } : Jvm.MethodName)) ∈ lg := List.mem_append_left _ (List.mem_append_left _ (List.mem_append_right _ (List.mem_of_getElem? (i := 8) rfl)))
theorem hw_369 : (Jvm.Cond.static ({ cls := "HistoryJudge$Judge", name := "after", desc := "(LHistoryJudge$Program;LHistoryJudge$Machine;II)I" } : Jvm.MethodName)) ∈ lg := List.mem_append_left _ (List.mem_append_left _ (List.mem_append_right _ (List.mem_of_getElem? (i := 9) rfl)))
theorem hw_370 : (Jvm.Cond.code ({ cls := "HistoryJudge$Judge", name := "search", desc := "(LHistoryJudge$Program;LHistoryJudge$Machine;IIII)Z" } : Jvm.MethodName) prog_3_method_3_code (12 : Nat) (Option.some Jvm.ClassFile.FieldType.boolean)) ∈ lg := List.mem_append_left _ (List.mem_append_left _ (List.mem_append_right _ (List.mem_of_getElem? (i := 10) rfl)))
theorem hw_371 : (Jvm.Cond.methodLink "HistoryJudge$Judge" (34 : Nat) ({ cls := "HistoryJudge$Judge", name := "search", desc := "(LHistoryJudge$Program;LHistoryJudge$Machine;IIII)Z" } : Jvm.MethodName)) ∈ lg := List.mem_append_left _ (List.mem_append_left _ (List.mem_append_right _ (List.mem_of_getElem? (i := 11) rfl)))
theorem hw_372 : (Jvm.Cond.instanceMethod ({ cls := "HistoryJudge$Judge", name := "search", desc := "(LHistoryJudge$Program;LHistoryJudge$Machine;IIII)Z" } : Jvm.MethodName)) ∈ lg := List.mem_append_left _ (List.mem_append_left _ (List.mem_append_right _ (List.mem_of_getElem? (i := 12) rfl)))
theorem hw_373 : (Jvm.Cond.selects "HistoryJudge$Judge" ({ cls := "HistoryJudge$Judge", name := "search", desc := "(LHistoryJudge$Program;LHistoryJudge$Machine;IIII)Z" } : Jvm.MethodName) ({ cls := "HistoryJudge$Judge", name := "search", desc := "(LHistoryJudge$Program;LHistoryJudge$Machine;IIII)Z" } : Jvm.MethodName)) ∈ lg := List.mem_append_left _ (List.mem_append_left _ (List.mem_append_right _ (List.mem_of_getElem? (i := 13) rfl)))
theorem hw_374 : (Jvm.Cond.fieldLink "HistoryJudge$Judge" (38 : Nat) "HistoryJudge$Machine" "returns" "[I") ∈ lg := List.mem_append_left _ (List.mem_append_left _ (List.mem_append_right _ (List.mem_of_getElem? (i := 14) rfl)))
theorem hw_375 : (Jvm.Cond.fieldLink "HistoryJudge$Judge" (43 : Nat) "HistoryJudge$Machine" "calls" "[I") ∈ lg := List.mem_append_left _ (List.mem_append_left _ (List.mem_append_right _ (List.mem_of_getElem? (i := 15) rfl)))
theorem hw_376 : (Jvm.Cond.code ({ cls := "HistoryJudge$Judge", name := "explains", desc := "(LHistoryJudge$Program;LHistoryJudge$Machine;)Z" } : Jvm.MethodName) prog_3_method_2_code (6 : Nat) (Option.some Jvm.ClassFile.FieldType.boolean)) ∈ lg := List.mem_append_left _ (List.mem_append_left _ (List.mem_append_right _ (List.mem_of_getElem? (i := 16) rfl)))
theorem hw_377 : (Jvm.Cond.methodLink "HistoryJudge$Tester" (57 : Nat) ({ cls := "HistoryJudge$Judge", name := "explains", desc := "(LHistoryJudge$Program;LHistoryJudge$Machine;)Z" } : Jvm.MethodName)) ∈ lg := List.mem_append_left _ (List.mem_append_left _ (List.mem_append_right _ (List.mem_of_getElem? (i := 17) rfl)))
theorem hw_378 : (Jvm.Cond.instanceMethod ({ cls := "HistoryJudge$Judge", name := "explains", desc := "(LHistoryJudge$Program;LHistoryJudge$Machine;)Z" } : Jvm.MethodName)) ∈ lg := List.mem_append_left _ (List.mem_append_left _ (List.mem_append_right _ (List.mem_of_getElem? (i := 18) rfl)))
theorem hw_379 : (Jvm.Cond.selects "HistoryJudge$Judge" ({ cls := "HistoryJudge$Judge", name := "explains", desc := "(LHistoryJudge$Program;LHistoryJudge$Machine;)Z" } : Jvm.MethodName) ({ cls := "HistoryJudge$Judge", name := "explains", desc := "(LHistoryJudge$Program;LHistoryJudge$Machine;)Z" } : Jvm.MethodName)) ∈ lg := List.mem_append_left _ (List.mem_append_left _ (List.mem_append_right _ (List.mem_of_getElem? (i := 19) rfl)))
theorem hw_380 : (Jvm.Cond.fieldLink "HistoryJudge$Tester" (42 : Nat) "HistoryJudge$Tester" "explained" "Z") ∈ lg := List.mem_append_left _ (List.mem_append_left _ (List.mem_append_right _ (List.mem_of_getElem? (i := 20) rfl)))
theorem hw_381 : (Jvm.Cond.fieldLink "HistoryJudge$Tester" (33 : Nat) "HistoryJudge$Tester" "runs" "I") ∈ lg := List.mem_append_left _ (List.mem_append_left _ (List.mem_append_right _ (List.mem_of_getElem? (i := 21) rfl)))
theorem hw_382 : (Jvm.Cond.methodLink "HistoryJudge$Tester" (61 : Nat) ({ cls := "HistoryJudge$Program", name := "size", desc := "()I" } : Jvm.MethodName)) ∈ lg := List.mem_append_left _ (List.mem_append_left _ (List.mem_append_right _ (List.mem_of_getElem? (i := 22) rfl)))
theorem hw_383 : (Jvm.Cond.fieldLink "HistoryJudge$Tester" (25 : Nat) "HistoryJudge$Tester" "tallies" "[I") ∈ lg := List.mem_append_left _ (List.mem_append_left _ (List.mem_append_right _ (List.mem_of_getElem? (i := 23) rfl)))
theorem hw_384 : (Jvm.Cond.fieldLink "HistoryJudge$Tester" (67 : Nat) "HistoryJudge$Program" "kinds" "[I") ∈ lg := List.mem_append_left _ (List.mem_append_left _ (List.mem_append_right _ (List.mem_of_getElem? (i := 24) rfl)))
theorem hw_385 : (Jvm.Cond.fieldLink "HistoryJudge$Tester" (36 : Nat) "HistoryJudge$Tester" "unexplained" "I") ∈ lg := List.mem_append_left _ (List.mem_append_left _ (List.mem_append_right _ (List.mem_of_getElem? (i := 25) rfl)))
theorem hw_386 : (Jvm.Cond.fieldLink "HistoryJudge$Tester" (49 : Nat) "HistoryJudge$Tester" "draws" "LHistoryJudge$Draws;") ∈ lg := List.mem_append_left _ (List.mem_append_left _ (List.mem_append_right _ (List.mem_of_getElem? (i := 26) rfl)))
theorem hw_387 : (Jvm.Cond.code ({ cls := "HistoryJudge$Draws", name := "restart", desc := "(J)V" } : Jvm.MethodName) prog_2_method_2_code (3 : Nat) (Option.none : Option Jvm.ClassFile.FieldType)) ∈ lg := List.mem_append_left _ (List.mem_append_left _ (List.mem_append_right _ (List.mem_of_getElem? (i := 27) rfl)))
theorem hw_388 : (Jvm.Cond.methodLink "HistoryJudge$Tester" (70 : Nat) ({ cls := "HistoryJudge$Draws", name := "restart", desc := "(J)V" } : Jvm.MethodName)) ∈ lg := List.mem_append_left _ (List.mem_append_left _ (List.mem_append_right _ (List.mem_of_getElem? (i := 28) rfl)))
theorem hw_389 : (Jvm.Cond.instanceMethod ({ cls := "HistoryJudge$Draws", name := "restart", desc := "(J)V" } : Jvm.MethodName)) ∈ lg := List.mem_append_left _ (List.mem_append_left _ (List.mem_append_right _ (List.mem_of_getElem? (i := 29) rfl)))
theorem hw_390 : (Jvm.Cond.selects "HistoryJudge$Draws" ({ cls := "HistoryJudge$Draws", name := "restart", desc := "(J)V" } : Jvm.MethodName) ({ cls := "HistoryJudge$Draws", name := "restart", desc := "(J)V" } : Jvm.MethodName)) ∈ lg := List.mem_append_left _ (List.mem_append_left _ (List.mem_append_right _ (List.mem_of_getElem? (i := 30) rfl)))
theorem hw_391 : (Jvm.Cond.constant "HistoryJudge$Tester" (74 : Nat) (2147483647 : Int32)) ∈ lg := List.mem_append_left _ (List.mem_append_left _ (List.mem_append_right _ (List.mem_of_getElem? (i := 31) rfl)))
theorem hw_392 : (Jvm.Cond.methodLink "HistoryJudge$Tester" (75 : Nat) ({ cls := "HistoryJudge$Draws", name := "below", desc := "(I)I" } : Jvm.MethodName)) ∈ lg := List.mem_append_left _ (List.mem_append_left _ (List.mem_append_right _ (List.mem_of_getElem? (i := 32) rfl)))
theorem hw_393 : (Jvm.Cond.code ({ cls := "HistoryJudge$Tester", name := "test", desc := "(LHistoryJudge$Program;I)Z" } : Jvm.MethodName) prog_7_method_2_code (5 : Nat) (Option.some Jvm.ClassFile.FieldType.boolean)) ∈ lg := List.mem_append_left _ (List.mem_append_left _ (List.mem_append_right _ (List.mem_of_getElem? (i := 33) rfl)))
theorem hw_394 : (Jvm.Cond.methodLink "HistoryJudge$Tester" (79 : Nat) ({ cls := "HistoryJudge$Tester", name := "test", desc := "(LHistoryJudge$Program;I)Z" } : Jvm.MethodName)) ∈ lg := List.mem_append_left _ (List.mem_append_left _ (List.mem_append_right _ (List.mem_of_getElem? (i := 34) rfl)))
theorem hw_395 : (Jvm.Cond.instanceMethod ({ cls := "HistoryJudge$Tester", name := "test", desc := "(LHistoryJudge$Program;I)Z" } : Jvm.MethodName)) ∈ lg := List.mem_append_left _ (List.mem_append_left _ (List.mem_append_right _ (List.mem_of_getElem? (i := 35) rfl)))
theorem hw_396 : (Jvm.Cond.selects "HistoryJudge$Tester" ({ cls := "HistoryJudge$Tester", name := "test", desc := "(LHistoryJudge$Program;I)Z" } : Jvm.MethodName) ({ cls := "HistoryJudge$Tester", name := "test", desc := "(LHistoryJudge$Program;I)Z" } : Jvm.MethodName)) ∈ lg := List.mem_append_left _ (List.mem_append_left _ (List.mem_append_right _ (List.mem_of_getElem? (i := 36) rfl)))
theorem hw_397 : (Jvm.Cond.initialized "HistoryJudge$Tester") ∈ lg := List.mem_append_left _ (List.mem_append_left _ (List.mem_append_right _ (List.mem_of_getElem? (i := 37) rfl)))
theorem hw_398 : (Jvm.Cond.methodLink "HistoryJudge" (3 : Nat) ({ cls := "java/lang/Object", name := "<init>", desc := "()V" } : Jvm.MethodName)) ∈ lg := List.mem_append_left _ (List.mem_append_left _ (List.mem_append_right _ (List.mem_of_getElem? (i := 38) rfl)))
theorem hw_399 : (Jvm.Cond.instanceMethod ({ cls := "java/lang/Object", name := "<init>", desc := "()V" } : Jvm.MethodName)) ∈ lg := List.mem_append_left _ (List.mem_append_left _ (List.mem_append_right _ (List.mem_of_getElem? (i := 39) rfl)))
theorem hw_400 : (Jvm.Cond.code ({ cls := "java/lang/Object", name := "<init>", desc := "()V" } : Jvm.MethodName) object_method_1_code (1 : Nat) (Option.none : Option Jvm.ClassFile.FieldType)) ∈ lg := List.mem_append_left _ (List.mem_append_left _ (List.mem_append_right _ (List.mem_of_getElem? (i := 40) rfl)))
theorem hw_401 : (Jvm.Cond.classLink "HistoryJudge" (9 : Nat) "HistoryJudge$Program") ∈ lg := List.mem_append_left _ (List.mem_append_left _ (List.mem_append_right _ (List.mem_of_getElem? (i := 41) rfl)))
theorem hw_402 : (Jvm.Cond.instantiable "HistoryJudge$Program" (4 : Nat)) ∈ lg := List.mem_append_left _ (List.mem_append_left _ (List.mem_append_right _ (List.mem_of_getElem? (i := 42) rfl)))
theorem hw_403 : (Jvm.Cond.methodLink "HistoryJudge$Program" (3 : Nat) ({ cls := "java/lang/Object", name := "<init>", desc := "()V" } : Jvm.MethodName)) ∈ lg := List.mem_append_left _ (List.mem_append_left _ (List.mem_append_right _ (List.mem_of_getElem? (i := 43) rfl)))
theorem hw_404 : (Jvm.Cond.arrayClass Jvm.ClassFile.FieldType.int) ∈ lg := List.mem_append_left _ (List.mem_append_left _ (List.mem_append_right _ (List.mem_of_getElem? (i := 44) rfl)))
theorem hw_405 : (Jvm.Cond.instanceMethod ({ cls := "HistoryJudge$Program", name := "<init>", desc := "()V" } : Jvm.MethodName)) ∈ lg := List.mem_append_left _ (List.mem_append_left _ (List.mem_append_right _ (List.mem_of_getElem? (i := 45) rfl)))
theorem hw_406 : (Jvm.Cond.code ({ cls := "HistoryJudge$Program", name := "<init>", desc := "()V" } : Jvm.MethodName) prog_6_method_1_code (1 : Nat) (Option.none : Option Jvm.ClassFile.FieldType)) ∈ lg := List.mem_append_left _ (List.mem_append_left _ (List.mem_append_right _ (List.mem_of_getElem? (i := 46) rfl)))
theorem hw_407 : (Jvm.Cond.classLink "HistoryJudge" (19 : Nat) "HistoryJudge$Tester") ∈ lg := List.mem_append_left _ (List.mem_append_left _ (List.mem_append_right _ (List.mem_of_getElem? (i := 47) rfl)))
theorem hw_408 : (Jvm.Cond.instantiable "HistoryJudge$Tester" (9 : Nat)) ∈ lg := List.mem_append_left _ (List.mem_append_left _ (List.mem_append_right _ (List.mem_of_getElem? (i := 48) rfl)))
theorem hw_409 : (Jvm.Cond.methodLink "HistoryJudge$Tester" (3 : Nat) ({ cls := "java/lang/Object", name := "<init>", desc := "()V" } : Jvm.MethodName)) ∈ lg := List.mem_append_left _ (List.mem_append_left _ (List.mem_append_right _ (List.mem_of_getElem? (i := 49) rfl)))
theorem hw_410 : (Jvm.Cond.classLink "HistoryJudge$Tester" (9 : Nat) "HistoryJudge$Machine") ∈ lg := List.mem_append_left _ (List.mem_append_left _ (List.mem_append_right _ (List.mem_of_getElem? (i := 50) rfl)))
theorem hw_411 : (Jvm.Cond.instantiable "HistoryJudge$Machine" (9 : Nat)) ∈ lg := List.mem_append_left _ (List.mem_append_left _ (List.mem_append_right _ (List.mem_of_getElem? (i := 51) rfl)))
theorem hw_412 : (Jvm.Cond.methodLink "HistoryJudge$Machine" (3 : Nat) ({ cls := "java/lang/Object", name := "<init>", desc := "()V" } : Jvm.MethodName)) ∈ lg := List.mem_append_left _ (List.mem_append_left _ (List.mem_append_right _ (List.mem_of_getElem? (i := 52) rfl)))
theorem hw_413 : (Jvm.Cond.instanceMethod ({ cls := "HistoryJudge$Machine", name := "<init>", desc := "()V" } : Jvm.MethodName)) ∈ lg := List.mem_append_left _ (List.mem_append_left _ (List.mem_append_right _ (List.mem_of_getElem? (i := 53) rfl)))
theorem hw_414 : (Jvm.Cond.code ({ cls := "HistoryJudge$Machine", name := "<init>", desc := "()V" } : Jvm.MethodName) prog_4_method_1_code (1 : Nat) (Option.none : Option Jvm.ClassFile.FieldType)) ∈ lg := List.mem_append_left _ (List.mem_append_left _ (List.mem_append_right _ (List.mem_of_getElem? (i := 54) rfl)))
theorem hw_415 : (Jvm.Cond.classLink "HistoryJudge$Tester" (18 : Nat) "HistoryJudge$Judge") ∈ lg := List.mem_append_left _ (List.mem_append_left _ (List.mem_append_right _ (List.mem_of_getElem? (i := 55) rfl)))
theorem hw_416 : (Jvm.Cond.instantiable "HistoryJudge$Judge" (1 : Nat)) ∈ lg := List.mem_append_left _ (List.mem_append_left _ (List.mem_append_right _ (List.mem_of_getElem? (i := 56) rfl)))
theorem hw_417 : (Jvm.Cond.methodLink "HistoryJudge$Judge" (3 : Nat) ({ cls := "java/lang/Object", name := "<init>", desc := "()V" } : Jvm.MethodName)) ∈ lg := List.mem_append_left _ (List.mem_append_left _ (List.mem_append_right _ (List.mem_of_getElem? (i := 57) rfl)))
theorem hw_418 : (Jvm.Cond.instanceMethod ({ cls := "HistoryJudge$Judge", name := "<init>", desc := "()V" } : Jvm.MethodName)) ∈ lg := List.mem_append_left _ (List.mem_append_left _ (List.mem_append_right _ (List.mem_of_getElem? (i := 58) rfl)))
theorem hw_419 : (Jvm.Cond.code ({ cls := "HistoryJudge$Judge", name := "<init>", desc := "()V" } : Jvm.MethodName) prog_3_method_1_code (1 : Nat) (Option.none : Option Jvm.ClassFile.FieldType)) ∈ lg := List.mem_append_left _ (List.mem_append_left _ (List.mem_append_right _ (List.mem_of_getElem? (i := 59) rfl)))
theorem hw_420 : (Jvm.Cond.classLink "HistoryJudge$Tester" (46 : Nat) "HistoryJudge$Draws") ∈ lg := List.mem_append_left _ (List.mem_append_right _ (List.mem_of_getElem? (i := 0) rfl))
theorem hw_421 : (Jvm.Cond.instantiable "HistoryJudge$Draws" (1 : Nat)) ∈ lg := List.mem_append_left _ (List.mem_append_right _ (List.mem_of_getElem? (i := 1) rfl))
theorem hw_422 : (Jvm.Cond.methodLink "HistoryJudge$Draws" (1 : Nat) ({ cls := "java/lang/Object", name := "<init>", desc := "()V" } : Jvm.MethodName)) ∈ lg := List.mem_append_left _ (List.mem_append_right _ (List.mem_of_getElem? (i := 2) rfl))
theorem hw_423 : (Jvm.Cond.instanceMethod ({ cls := "HistoryJudge$Draws", name := "<init>", desc := "()V" } : Jvm.MethodName)) ∈ lg := List.mem_append_left _ (List.mem_append_right _ (List.mem_of_getElem? (i := 3) rfl))
theorem hw_424 : (Jvm.Cond.code ({ cls := "HistoryJudge$Draws", name := "<init>", desc := "()V" } : Jvm.MethodName) prog_2_method_1_code (1 : Nat) (Option.none : Option Jvm.ClassFile.FieldType)) ∈ lg := List.mem_append_left _ (List.mem_append_right _ (List.mem_of_getElem? (i := 4) rfl))
theorem hw_425 : (Jvm.Cond.instanceMethod ({ cls := "HistoryJudge$Tester", name := "<init>", desc := "()V" } : Jvm.MethodName)) ∈ lg := List.mem_append_left _ (List.mem_append_right _ (List.mem_of_getElem? (i := 5) rfl))
theorem hw_426 : (Jvm.Cond.code ({ cls := "HistoryJudge$Tester", name := "<init>", desc := "()V" } : Jvm.MethodName) prog_7_method_1_code (1 : Nat) (Option.none : Option Jvm.ClassFile.FieldType)) ∈ lg := List.mem_append_left _ (List.mem_append_right _ (List.mem_of_getElem? (i := 6) rfl))
theorem hw_427 : (Jvm.Cond.fieldLink "HistoryJudge" (22 : Nat) "HistoryJudge" "tester" "LHistoryJudge$Tester;") ∈ lg := List.mem_append_left _ (List.mem_append_right _ (List.mem_of_getElem? (i := 7) rfl))
theorem hw_428 : (Jvm.Cond.classLink "HistoryJudge" (26 : Nat) "HistoryJudge$Draws") ∈ lg := List.mem_append_left _ (List.mem_append_right _ (List.mem_of_getElem? (i := 8) rfl))
theorem hw_429 : (Jvm.Cond.fieldLink "HistoryJudge" (33 : Nat) "HistoryJudge" "taken" "I") ∈ lg := List.mem_append_left _ (List.mem_append_right _ (List.mem_of_getElem? (i := 9) rfl))
theorem hw_430 : (Jvm.Cond.methodLink "HistoryJudgeModel" (1 : Nat) ({ cls := "java/lang/Object", name := "<init>", desc := "()V" } : Jvm.MethodName)) ∈ lg := List.mem_append_left _ (List.mem_append_right _ (List.mem_of_getElem? (i := 10) rfl))
theorem hw_431 : (Jvm.Cond.arrayClass Jvm.ClassFile.FieldType.boolean) ∈ lg := List.mem_append_left _ (List.mem_append_right _ (List.mem_of_getElem? (i := 11) rfl))
theorem hw_432 : (Jvm.Cond.laysFinal "HistoryJudge" "HistoryJudge" "program" "LHistoryJudge$Program;") ∈ lg := List.mem_append_left _ (List.mem_append_right _ (List.mem_of_getElem? (i := 12) rfl))
theorem hw_433 : (Jvm.Cond.laysFinal "HistoryJudge" "HistoryJudge" "trial" "LHistoryJudge$Program;") ∈ lg := List.mem_append_left _ (List.mem_append_right _ (List.mem_of_getElem? (i := 13) rfl))
theorem hw_434 : (Jvm.Cond.laysFinal "HistoryJudge" "HistoryJudge" "tester" "LHistoryJudge$Tester;") ∈ lg := List.mem_append_left _ (List.mem_append_right _ (List.mem_of_getElem? (i := 14) rfl))
theorem hw_435 : (Jvm.Cond.laysFinal "HistoryJudge" "HistoryJudge" "draws" "LHistoryJudge$Draws;") ∈ lg := List.mem_append_left _ (List.mem_append_right _ (List.mem_of_getElem? (i := 15) rfl))
theorem hw_436 : (Jvm.Cond.lays "HistoryJudge" "HistoryJudge" "taken" "I") ∈ lg := List.mem_append_left _ (List.mem_append_right _ (List.mem_of_getElem? (i := 16) rfl))
theorem hw_437 : (Jvm.Cond.lays "HistoryJudge" "HistoryJudge" "runIsCurrent" "Z") ∈ lg := List.mem_append_left _ (List.mem_append_right _ (List.mem_of_getElem? (i := 17) rfl))
theorem hw_438 : (Jvm.Cond.laysFinal "HistoryJudge$Program" "HistoryJudge$Program" "sizes" "[I") ∈ lg := List.mem_append_left _ (List.mem_append_right _ (List.mem_of_getElem? (i := 18) rfl))
theorem hw_439 : (Jvm.Cond.laysFinal "HistoryJudge$Program" "HistoryJudge$Program" "kinds" "[I") ∈ lg := List.mem_append_left _ (List.mem_append_right _ (List.mem_of_getElem? (i := 19) rfl))
theorem hw_440 : (Jvm.Cond.laysFinal "HistoryJudge$Program" "HistoryJudge$Program" "cells" "[I") ∈ lg := List.mem_append_left _ (List.mem_append_right _ (List.mem_of_getElem? (i := 20) rfl))
theorem hw_441 : (Jvm.Cond.laysFinal "HistoryJudge$Program" "HistoryJudge$Program" "arguments" "[I") ∈ lg := List.mem_append_left _ (List.mem_append_right _ (List.mem_of_getElem? (i := 21) rfl))
theorem hw_442 : (Jvm.Cond.laysFinal "HistoryJudge$Tester" "HistoryJudge$Tester" "machine" "LHistoryJudge$Machine;") ∈ lg := List.mem_append_left _ (List.mem_append_right _ (List.mem_of_getElem? (i := 22) rfl))
theorem hw_443 : (Jvm.Cond.laysFinal "HistoryJudge$Tester" "HistoryJudge$Tester" "judge" "LHistoryJudge$Judge;") ∈ lg := List.mem_append_left _ (List.mem_append_right _ (List.mem_of_getElem? (i := 23) rfl))
theorem hw_444 : (Jvm.Cond.laysFinal "HistoryJudge$Tester" "HistoryJudge$Tester" "tallies" "[I") ∈ lg := List.mem_append_left _ (List.mem_append_right _ (List.mem_of_getElem? (i := 24) rfl))
theorem hw_445 : (Jvm.Cond.lays "HistoryJudge$Tester" "HistoryJudge$Tester" "flawBits" "I") ∈ lg := List.mem_append_left _ (List.mem_append_right _ (List.mem_of_getElem? (i := 25) rfl))
theorem hw_446 : (Jvm.Cond.lays "HistoryJudge$Tester" "HistoryJudge$Tester" "runs" "I") ∈ lg := List.mem_append_left _ (List.mem_append_right _ (List.mem_of_getElem? (i := 26) rfl))
theorem hw_447 : (Jvm.Cond.lays "HistoryJudge$Tester" "HistoryJudge$Tester" "unexplained" "I") ∈ lg := List.mem_append_left _ (List.mem_append_right _ (List.mem_of_getElem? (i := 27) rfl))
theorem hw_448 : (Jvm.Cond.lays "HistoryJudge$Tester" "HistoryJudge$Tester" "schedule" "I") ∈ lg := List.mem_append_left _ (List.mem_append_right _ (List.mem_of_getElem? (i := 28) rfl))
theorem hw_449 : (Jvm.Cond.lays "HistoryJudge$Tester" "HistoryJudge$Tester" "explained" "Z") ∈ lg := List.mem_append_left _ (List.mem_append_right _ (List.mem_of_getElem? (i := 29) rfl))
theorem hw_450 : (Jvm.Cond.laysFinal "HistoryJudge$Tester" "HistoryJudge$Tester" "draws" "LHistoryJudge$Draws;") ∈ lg := List.mem_append_left _ (List.mem_append_right _ (List.mem_of_getElem? (i := 30) rfl))
theorem hw_451 : (Jvm.Cond.laysFinal "HistoryJudge$Machine" "HistoryJudge$Machine" "answers" "[I") ∈ lg := List.mem_append_left _ (List.mem_append_right _ (List.mem_of_getElem? (i := 31) rfl))
theorem hw_452 : (Jvm.Cond.laysFinal "HistoryJudge$Machine" "HistoryJudge$Machine" "numbers" "[I") ∈ lg := List.mem_append_left _ (List.mem_append_right _ (List.mem_of_getElem? (i := 32) rfl))
theorem hw_453 : (Jvm.Cond.laysFinal "HistoryJudge$Machine" "HistoryJudge$Machine" "calls" "[I") ∈ lg := List.mem_append_left _ (List.mem_append_right _ (List.mem_of_getElem? (i := 33) rfl))
theorem hw_454 : (Jvm.Cond.laysFinal "HistoryJudge$Machine" "HistoryJudge$Machine" "returns" "[I") ∈ lg := List.mem_append_left _ (List.mem_append_right _ (List.mem_of_getElem? (i := 34) rfl))
theorem hw_455 : (Jvm.Cond.lays "HistoryJudge$Machine" "HistoryJudge$Machine" "cells" "I") ∈ lg := List.mem_append_left _ (List.mem_append_right _ (List.mem_of_getElem? (i := 35) rfl))
theorem hw_456 : (Jvm.Cond.laysFinal "HistoryJudge$Machine" "HistoryJudge$Machine" "nextCommand" "[I") ∈ lg := List.mem_append_left _ (List.mem_append_right _ (List.mem_of_getElem? (i := 36) rfl))
theorem hw_457 : (Jvm.Cond.laysFinal "HistoryJudge$Machine" "HistoryJudge$Machine" "nextEvent" "[I") ∈ lg := List.mem_append_left _ (List.mem_append_right _ (List.mem_of_getElem? (i := 37) rfl))
theorem hw_458 : (Jvm.Cond.laysFinal "HistoryJudge$Machine" "HistoryJudge$Machine" "noted" "[I") ∈ lg := List.mem_append_left _ (List.mem_append_right _ (List.mem_of_getElem? (i := 38) rfl))
theorem hw_459 : (Jvm.Cond.lays "HistoryJudge$Machine" "HistoryJudge$Machine" "flawBits" "I") ∈ lg := List.mem_append_left _ (List.mem_append_right _ (List.mem_of_getElem? (i := 39) rfl))
theorem hw_460 : (Jvm.Cond.laysFinal "HistoryJudge$Judge" "HistoryJudge$Judge" "witness" "[I") ∈ lg := List.mem_append_left _ (List.mem_append_right _ (List.mem_of_getElem? (i := 40) rfl))
theorem hw_461 : (Jvm.Cond.lays "HistoryJudge$Draws" "HistoryJudge$Draws" "state" "J") ∈ lg := List.mem_append_left _ (List.mem_append_right _ (List.mem_of_getElem? (i := 41) rfl))
theorem hw_462 : (Jvm.Cond.lays "HistoryJudgeModel" "HistoryJudgeModel" "thrown" "I") ∈ lg := List.mem_append_left _ (List.mem_append_right _ (List.mem_of_getElem? (i := 42) rfl))
theorem hw_463 : (Jvm.Cond.laysFinal "HistoryJudgeModel" "HistoryJudgeModel" "sizes" "[I") ∈ lg := List.mem_append_left _ (List.mem_append_right _ (List.mem_of_getElem? (i := 43) rfl))
theorem hw_464 : (Jvm.Cond.laysFinal "HistoryJudgeModel" "HistoryJudgeModel" "kind" "[I") ∈ lg := List.mem_append_left _ (List.mem_append_right _ (List.mem_of_getElem? (i := 44) rfl))
theorem hw_465 : (Jvm.Cond.laysFinal "HistoryJudgeModel" "HistoryJudgeModel" "cell" "[I") ∈ lg := List.mem_append_left _ (List.mem_append_right _ (List.mem_of_getElem? (i := 45) rfl))
theorem hw_466 : (Jvm.Cond.laysFinal "HistoryJudgeModel" "HistoryJudgeModel" "argument" "[I") ∈ lg := List.mem_append_left _ (List.mem_append_right _ (List.mem_of_getElem? (i := 46) rfl))
theorem hw_467 : (Jvm.Cond.laysFinal "HistoryJudgeModel" "HistoryJudgeModel" "keptSizes" "[I") ∈ lg := List.mem_append_left _ (List.mem_append_right _ (List.mem_of_getElem? (i := 47) rfl))
theorem hw_468 : (Jvm.Cond.laysFinal "HistoryJudgeModel" "HistoryJudgeModel" "kept" "[I") ∈ lg := List.mem_append_left _ (List.mem_append_right _ (List.mem_of_getElem? (i := 48) rfl))
theorem hw_469 : (Jvm.Cond.lays "HistoryJudgeModel" "HistoryJudgeModel" "flaws" "I") ∈ lg := List.mem_append_left _ (List.mem_append_right _ (List.mem_of_getElem? (i := 49) rfl))
theorem hw_470 : (Jvm.Cond.lays "HistoryJudgeModel" "HistoryJudgeModel" "g" "J") ∈ lg := List.mem_append_left _ (List.mem_append_right _ (List.mem_of_getElem? (i := 50) rfl))
theorem hw_471 : (Jvm.Cond.laysFinal "HistoryJudgeModel" "HistoryJudgeModel" "holds" "[I") ∈ lg := List.mem_append_left _ (List.mem_append_right _ (List.mem_of_getElem? (i := 51) rfl))
theorem hw_472 : (Jvm.Cond.laysFinal "HistoryJudgeModel" "HistoryJudgeModel" "open" "[Z") ∈ lg := List.mem_append_left _ (List.mem_append_right _ (List.mem_of_getElem? (i := 52) rfl))
theorem hw_473 : (Jvm.Cond.laysFinal "HistoryJudgeModel" "HistoryJudgeModel" "has" "[I") ∈ lg := List.mem_append_left _ (List.mem_append_right _ (List.mem_of_getElem? (i := 53) rfl))
theorem hw_474 : (Jvm.Cond.laysFinal "HistoryJudgeModel" "HistoryJudgeModel" "isOpen" "[Z") ∈ lg := List.mem_append_left _ (List.mem_append_right _ (List.mem_of_getElem? (i := 54) rfl))
theorem hw_475 : (Jvm.Cond.lays "HistoryJudgeModel" "HistoryJudgeModel" "ran" "Z") ∈ lg := List.mem_append_left _ (List.mem_append_right _ (List.mem_of_getElem? (i := 55) rfl))
theorem hw_476 : (Jvm.Cond.lays "HistoryJudgeModel" "HistoryJudgeModel" "explained" "Z") ∈ lg := List.mem_append_left _ (List.mem_append_right _ (List.mem_of_getElem? (i := 56) rfl))
theorem hw_477 : (Jvm.Cond.laysFinal "HistoryJudgeModel" "HistoryJudgeModel" "answer" "[I") ∈ lg := List.mem_append_left _ (List.mem_append_right _ (List.mem_of_getElem? (i := 57) rfl))
theorem hw_478 : (Jvm.Cond.laysFinal "HistoryJudgeModel" "HistoryJudgeModel" "number" "[I") ∈ lg := List.mem_append_left _ (List.mem_append_right _ (List.mem_of_getElem? (i := 58) rfl))
theorem hw_479 : (Jvm.Cond.laysFinal "HistoryJudgeModel" "HistoryJudgeModel" "call" "[I") ∈ lg := List.mem_append_left _ (List.mem_append_right _ (List.mem_of_getElem? (i := 59) rfl))
theorem hw_480 : (Jvm.Cond.laysFinal "HistoryJudgeModel" "HistoryJudgeModel" "back" "[I") ∈ lg := List.mem_append_right _ (List.mem_of_getElem? (i := 0) rfl)
theorem hw_481 : (Jvm.Cond.laysFinal "HistoryJudgeModel" "HistoryJudgeModel" "noted" "[I") ∈ lg := List.mem_append_right _ (List.mem_of_getElem? (i := 1) rfl)
theorem hw_482 : (Jvm.Cond.laysFinal "HistoryJudgeModel" "HistoryJudgeModel" "at" "[I") ∈ lg := List.mem_append_right _ (List.mem_of_getElem? (i := 2) rfl)
theorem hw_483 : (Jvm.Cond.laysFinal "HistoryJudgeModel" "HistoryJudgeModel" "event" "[I") ∈ lg := List.mem_append_right _ (List.mem_of_getElem? (i := 3) rfl)
theorem hw_484 : (Jvm.Cond.lays "HistoryJudgeModel" "HistoryJudgeModel" "witness" "I") ∈ lg := List.mem_append_right _ (List.mem_of_getElem? (i := 4) rfl)
theorem hw_485 : (Jvm.Cond.lays "HistoryJudgeModel" "HistoryJudgeModel" "runs" "I") ∈ lg := List.mem_append_right _ (List.mem_of_getElem? (i := 5) rfl)
theorem hw_486 : (Jvm.Cond.lays "HistoryJudgeModel" "HistoryJudgeModel" "wrong" "I") ∈ lg := List.mem_append_right _ (List.mem_of_getElem? (i := 6) rfl)
theorem hw_487 : (Jvm.Cond.lays "HistoryJudgeModel" "HistoryJudgeModel" "taken" "I") ∈ lg := List.mem_append_right _ (List.mem_of_getElem? (i := 7) rfl)
theorem hw_488 : (Jvm.Cond.lays "HistoryJudgeModel" "HistoryJudgeModel" "failing" "I") ∈ lg := List.mem_append_right _ (List.mem_of_getElem? (i := 8) rfl)
theorem hw_489 : (Jvm.Cond.laysFinal "HistoryJudgeModel" "HistoryJudgeModel" "tallies" "[I") ∈ lg := List.mem_append_right _ (List.mem_of_getElem? (i := 9) rfl)
theorem lg_all : lg.all goodWord = true := by decide +kernel
theorem lg_good (w : Jvm.Cond) (h : w ∈ lg) : (w.onTables && w.keeps) = true ∨ ∃ ty, w = .arrayClass ty := by
  have h1 := List.all_eq_true.mp lg_all w h
  unfold goodWord at h1
  split at h1
  · exact Or.inr ⟨_, rfl⟩
  · exact Or.inl h1
theorem ev_good1 {w : Jvm.Cond} (h : w ∈ lg) : w ∈ lg ∧ ((w.onTables && w.keeps) = true ∨ ∃ ty, w = .arrayClass ty) := ⟨h, lg_good w h⟩
theorem ev_goodI {cw : Jvm.Cond} (h : cw ∈ lg) : GoodIn lg (cw :: lg) := by
  intro w hw
  rcases List.mem_cons.mp hw with rfl | hw
  · exact ev_good1 h
  · exact ev_good1 hw
theorem ev_goodV {cw : Jvm.Cond} {own : String} {idx : Nat} {C : String} {y : MethodName} (h1 : Jvm.Cond.methodLink own idx y ∈ lg) (h2 : Jvm.Cond.instanceMethod y ∈ lg) (h3 : Jvm.Cond.selects C y y ∈ lg) (h4 : Jvm.Cond.initialized C ∈ lg) (h5 : cw ∈ lg) : GoodIn lg (wsV own idx C y (cw :: lg)) := by
  intro w hw
  unfold wsV at hw
  rcases List.mem_append.mp hw with hw | hw
  · simp only [List.mem_cons, List.not_mem_nil, or_false] at hw
    rcases hw with rfl | rfl | rfl | rfl
    · exact ev_good1 h1
    · exact ev_good1 h2
    · exact ev_good1 h3
    · exact ev_good1 h4
  · exact ev_goodI h5 w hw
theorem ev_goodS {cw : Jvm.Cond} {own : String} {idx : Nat} {y : MethodName} (h1 : Jvm.Cond.methodLink own idx y ∈ lg) (h2 : Jvm.Cond.static y ∈ lg) (h4 : Jvm.Cond.initialized y.cls ∈ lg) (h5 : cw ∈ lg) : GoodIn lg (va_wsS own idx y (cw :: lg)) := by
  intro w hw
  unfold va_wsS at hw
  rcases List.mem_append.mp hw with hw | hw
  · simp only [List.mem_cons, List.not_mem_nil, or_false] at hw
    rcases hw with rfl | rfl | rfl
    · exact ev_good1 h1
    · exact ev_good1 h2
    · exact ev_good1 h4
  · exact ev_goodI h5 w hw
theorem hCw_H : ∀ w ∈ u_ws RX_H TX_H 6, w ∈ lg := List.forall_mem_cons.mpr ⟨hw_432, List.forall_mem_cons.mpr ⟨hw_433, List.forall_mem_cons.mpr ⟨hw_434, List.forall_mem_cons.mpr ⟨hw_435, List.forall_mem_cons.mpr ⟨hw_436, List.forall_mem_cons.mpr ⟨hw_437, fun _ h => nomatch h⟩⟩⟩⟩⟩⟩
theorem hC_H : ev_C gaX 0 RX_H TX_H 6 tyX_H := ⟨rfl, hCw_H, by decide +kernel, by decide +kernel⟩
theorem hCw_P : ∀ w ∈ u_ws RX_P TX_P 4, w ∈ lg := List.forall_mem_cons.mpr ⟨hw_438, List.forall_mem_cons.mpr ⟨hw_439, List.forall_mem_cons.mpr ⟨hw_440, List.forall_mem_cons.mpr ⟨hw_441, fun _ h => nomatch h⟩⟩⟩⟩
theorem hC_P : ev_C gaX 1 RX_P TX_P 4 tyX_P := ⟨rfl, hCw_P, by decide +kernel, by decide +kernel⟩
theorem hCw_T : ∀ w ∈ u_ws RX_T TX_T 9, w ∈ lg := List.forall_mem_cons.mpr ⟨hw_442, List.forall_mem_cons.mpr ⟨hw_443, List.forall_mem_cons.mpr ⟨hw_444, List.forall_mem_cons.mpr ⟨hw_445, List.forall_mem_cons.mpr ⟨hw_446, List.forall_mem_cons.mpr ⟨hw_447, List.forall_mem_cons.mpr ⟨hw_448, List.forall_mem_cons.mpr ⟨hw_449, List.forall_mem_cons.mpr ⟨hw_450, fun _ h => nomatch h⟩⟩⟩⟩⟩⟩⟩⟩⟩
theorem hC_T : ev_C gaX 2 RX_T TX_T 9 tyX_T := ⟨rfl, hCw_T, by decide +kernel, by decide +kernel⟩
theorem hCw_M : ∀ w ∈ u_ws RX_M TX_M 9, w ∈ lg := List.forall_mem_cons.mpr ⟨hw_451, List.forall_mem_cons.mpr ⟨hw_452, List.forall_mem_cons.mpr ⟨hw_453, List.forall_mem_cons.mpr ⟨hw_454, List.forall_mem_cons.mpr ⟨hw_455, List.forall_mem_cons.mpr ⟨hw_456, List.forall_mem_cons.mpr ⟨hw_457, List.forall_mem_cons.mpr ⟨hw_458, List.forall_mem_cons.mpr ⟨hw_459, fun _ h => nomatch h⟩⟩⟩⟩⟩⟩⟩⟩⟩
theorem hC_M : ev_C gaX 3 RX_M TX_M 9 tyX_M := ⟨rfl, hCw_M, by decide +kernel, by decide +kernel⟩
theorem hCw_J : ∀ w ∈ u_ws RX_J TX_J 1, w ∈ lg := List.forall_mem_cons.mpr ⟨hw_460, fun _ h => nomatch h⟩
theorem hC_J : ev_C gaX 4 RX_J TX_J 1 tyX_J := ⟨rfl, hCw_J, by decide +kernel, by decide +kernel⟩
theorem hCw_D : ∀ w ∈ u_ws RX_D TX_D 1, w ∈ lg := List.forall_mem_cons.mpr ⟨hw_461, fun _ h => nomatch h⟩
theorem hC_D : ev_C gaX 5 RX_D TX_D 1 tyX_D := ⟨rfl, hCw_D, by decide +kernel, by decide +kernel⟩
theorem hCw_R : ∀ w ∈ u_ws RX_R TX_R 28, w ∈ lg := List.forall_mem_cons.mpr ⟨hw_462, List.forall_mem_cons.mpr ⟨hw_463, List.forall_mem_cons.mpr ⟨hw_464, List.forall_mem_cons.mpr ⟨hw_465, List.forall_mem_cons.mpr ⟨hw_466, List.forall_mem_cons.mpr ⟨hw_467, List.forall_mem_cons.mpr ⟨hw_468, List.forall_mem_cons.mpr ⟨hw_469, List.forall_mem_cons.mpr ⟨hw_470, List.forall_mem_cons.mpr ⟨hw_471, List.forall_mem_cons.mpr ⟨hw_472, List.forall_mem_cons.mpr ⟨hw_473, List.forall_mem_cons.mpr ⟨hw_474, List.forall_mem_cons.mpr ⟨hw_475, List.forall_mem_cons.mpr ⟨hw_476, List.forall_mem_cons.mpr ⟨hw_477, List.forall_mem_cons.mpr ⟨hw_478, List.forall_mem_cons.mpr ⟨hw_479, List.forall_mem_cons.mpr ⟨hw_480, List.forall_mem_cons.mpr ⟨hw_481, List.forall_mem_cons.mpr ⟨hw_482, List.forall_mem_cons.mpr ⟨hw_483, List.forall_mem_cons.mpr ⟨hw_484, List.forall_mem_cons.mpr ⟨hw_485, List.forall_mem_cons.mpr ⟨hw_486, List.forall_mem_cons.mpr ⟨hw_487, List.forall_mem_cons.mpr ⟨hw_488, List.forall_mem_cons.mpr ⟨hw_489, fun _ h => nomatch h⟩⟩⟩⟩⟩⟩⟩⟩⟩⟩⟩⟩⟩⟩⟩⟩⟩⟩⟩⟩⟩⟩⟩⟩⟩⟩⟩⟩
theorem hC_R : ev_C gaX 6 RX_R TX_R 28 tyX_R := ⟨rfl, hCw_R, by decide +kernel, by decide +kernel⟩
theorem hy_P_size : y_P_size.cls = "HistoryJudge$Program" ∧ y_P_size.cls ≠ "java/lang/invoke/MethodHandle" ∧ y_P_size.cls ≠ "java/lang/invoke/VarHandle" ∧ (parseMethodDescriptor y_P_size.desc).map (fun d => d.parameters.length) = some 0 := by decide +kernel
theorem hy_P_empty : y_P_empty.cls = "HistoryJudge$Program" ∧ y_P_empty.cls ≠ "java/lang/invoke/MethodHandle" ∧ y_P_empty.cls ≠ "java/lang/invoke/VarHandle" ∧ (parseMethodDescriptor y_P_empty.desc).map (fun d => d.parameters.length) = some 0 := by decide +kernel
theorem hy_H_clear : y_H_clear.cls = "HistoryJudge" ∧ y_H_clear.cls ≠ "java/lang/invoke/MethodHandle" ∧ y_H_clear.cls ≠ "java/lang/invoke/VarHandle" ∧ (parseMethodDescriptor y_H_clear.desc).map (fun d => d.parameters.length) = some 0 := by decide +kernel
theorem hy_H_isBelow : y_H_isBelow.cls = "HistoryJudge" ∧ y_H_isBelow.cls ≠ "java/lang/invoke/MethodHandle" ∧ y_H_isBelow.cls ≠ "java/lang/invoke/VarHandle" ∧ (parseMethodDescriptor y_H_isBelow.desc).map (fun d => d.parameters.length) = some 2 := by decide +kernel
theorem hy_P_copyFrom : y_P_copyFrom.cls = "HistoryJudge$Program" ∧ y_P_copyFrom.cls ≠ "java/lang/invoke/MethodHandle" ∧ y_P_copyFrom.cls ≠ "java/lang/invoke/VarHandle" ∧ (parseMethodDescriptor y_P_copyFrom.desc).map (fun d => d.parameters.length) = some 1 := by decide +kernel
theorem hy_P_start : y_P_start.cls = "HistoryJudge$Program" ∧ y_P_start.cls ≠ "java/lang/invoke/MethodHandle" ∧ y_P_start.cls ≠ "java/lang/invoke/VarHandle" ∧ (parseMethodDescriptor y_P_start.desc).map (fun d => d.parameters.length) = some 1 := by decide +kernel
theorem hy_P_end : y_P_end.cls = "HistoryJudge$Program" ∧ y_P_end.cls ≠ "java/lang/invoke/MethodHandle" ∧ y_P_end.cls ≠ "java/lang/invoke/VarHandle" ∧ (parseMethodDescriptor y_P_end.desc).map (fun d => d.parameters.length) = some 1 := by decide +kernel
theorem hy_P_put : y_P_put.cls = "HistoryJudge$Program" ∧ y_P_put.cls ≠ "java/lang/invoke/MethodHandle" ∧ y_P_put.cls ≠ "java/lang/invoke/VarHandle" ∧ (parseMethodDescriptor y_P_put.desc).map (fun d => d.parameters.length) = some 4 := by decide +kernel
theorem hy_P_shiftUp : y_P_shiftUp.cls = "HistoryJudge$Program" ∧ y_P_shiftUp.cls ≠ "java/lang/invoke/MethodHandle" ∧ y_P_shiftUp.cls ≠ "java/lang/invoke/VarHandle" ∧ (parseMethodDescriptor y_P_shiftUp.desc).map (fun d => d.parameters.length) = some 2 := by decide +kernel
theorem hy_P_renumber : y_P_renumber.cls = "HistoryJudge$Program" ∧ y_P_renumber.cls ≠ "java/lang/invoke/MethodHandle" ∧ y_P_renumber.cls ≠ "java/lang/invoke/VarHandle" ∧ (parseMethodDescriptor y_P_renumber.desc).map (fun d => d.parameters.length) = some 2 := by decide +kernel
theorem hy_P_append : y_P_append.cls = "HistoryJudge$Program" ∧ y_P_append.cls ≠ "java/lang/invoke/MethodHandle" ∧ y_P_append.cls ≠ "java/lang/invoke/VarHandle" ∧ (parseMethodDescriptor y_P_append.desc).map (fun d => d.parameters.length) = some 4 := by decide +kernel
theorem hy_O_isOpen : y_O_isOpen.cls = "HistoryJudge$Model" ∧ y_O_isOpen.cls ≠ "java/lang/invoke/MethodHandle" ∧ y_O_isOpen.cls ≠ "java/lang/invoke/VarHandle" ∧ (parseMethodDescriptor y_O_isOpen.desc).map (fun d => d.parameters.length) = some 2 := by decide +kernel
theorem hy_O_source : y_O_source.cls = "HistoryJudge$Model" ∧ y_O_source.cls ≠ "java/lang/invoke/MethodHandle" ∧ y_O_source.cls ≠ "java/lang/invoke/VarHandle" ∧ (parseMethodDescriptor y_O_source.desc).map (fun d => d.parameters.length) = some 1 := by decide +kernel
theorem hy_O_allows : y_O_allows.cls = "HistoryJudge$Model" ∧ y_O_allows.cls ≠ "java/lang/invoke/MethodHandle" ∧ y_O_allows.cls ≠ "java/lang/invoke/VarHandle" ∧ (parseMethodDescriptor y_O_allows.desc).map (fun d => d.parameters.length) = some 3 := by decide +kernel
theorem hy_O_content : y_O_content.cls = "HistoryJudge$Model" ∧ y_O_content.cls ≠ "java/lang/invoke/MethodHandle" ∧ y_O_content.cls ≠ "java/lang/invoke/VarHandle" ∧ (parseMethodDescriptor y_O_content.desc).map (fun d => d.parameters.length) = some 2 := by decide +kernel
theorem hy_O_held : y_O_held.cls = "HistoryJudge$Model" ∧ y_O_held.cls ≠ "java/lang/invoke/MethodHandle" ∧ y_O_held.cls ≠ "java/lang/invoke/VarHandle" ∧ (parseMethodDescriptor y_O_held.desc).map (fun d => d.parameters.length) = some 2 := by decide +kernel
theorem hy_O_after : y_O_after.cls = "HistoryJudge$Model" ∧ y_O_after.cls ≠ "java/lang/invoke/MethodHandle" ∧ y_O_after.cls ≠ "java/lang/invoke/VarHandle" ∧ (parseMethodDescriptor y_O_after.desc).map (fun d => d.parameters.length) = some 4 := by decide +kernel
theorem hy_P_isValidBeside : y_P_isValidBeside.cls = "HistoryJudge$Program" ∧ y_P_isValidBeside.cls ≠ "java/lang/invoke/MethodHandle" ∧ y_P_isValidBeside.cls ≠ "java/lang/invoke/VarHandle" ∧ (parseMethodDescriptor y_P_isValidBeside.desc).map (fun d => d.parameters.length) = some 2 := by decide +kernel
theorem hy_P_isValid : y_P_isValid.cls = "HistoryJudge$Program" ∧ y_P_isValid.cls ≠ "java/lang/invoke/MethodHandle" ∧ y_P_isValid.cls ≠ "java/lang/invoke/VarHandle" ∧ (parseMethodDescriptor y_P_isValid.desc).map (fun d => d.parameters.length) = some 0 := by decide +kernel
theorem hy_H_appendIfValid : y_H_appendIfValid.cls = "HistoryJudge" ∧ y_H_appendIfValid.cls ≠ "java/lang/invoke/MethodHandle" ∧ y_H_appendIfValid.cls ≠ "java/lang/invoke/VarHandle" ∧ (parseMethodDescriptor y_H_appendIfValid.desc).map (fun d => d.parameters.length) = some 4 := by decide +kernel
theorem hy_D_below : y_D_below.cls = "HistoryJudge$Draws" ∧ y_D_below.cls ≠ "java/lang/invoke/MethodHandle" ∧ y_D_below.cls ≠ "java/lang/invoke/VarHandle" ∧ (parseMethodDescriptor y_D_below.desc).map (fun d => d.parameters.length) = some 1 := by decide +kernel
theorem hy_P_known : y_P_known.cls = "HistoryJudge$Program" ∧ y_P_known.cls ≠ "java/lang/invoke/MethodHandle" ∧ y_P_known.cls ≠ "java/lang/invoke/VarHandle" ∧ (parseMethodDescriptor y_P_known.desc).map (fun d => d.parameters.length) = some 1 := by decide +kernel
theorem hy_P_knownAt : y_P_knownAt.cls = "HistoryJudge$Program" ∧ y_P_knownAt.cls ≠ "java/lang/invoke/MethodHandle" ∧ y_P_knownAt.cls ≠ "java/lang/invoke/VarHandle" ∧ (parseMethodDescriptor y_P_knownAt.desc).map (fun d => d.parameters.length) = some 2 := by decide +kernel
theorem hy_H_drawCommand : y_H_drawCommand.cls = "HistoryJudge" ∧ y_H_drawCommand.cls ≠ "java/lang/invoke/MethodHandle" ∧ y_H_drawCommand.cls ≠ "java/lang/invoke/VarHandle" ∧ (parseMethodDescriptor y_H_drawCommand.desc).map (fun d => d.parameters.length) = some 1 := by decide +kernel
theorem hy_H_drawBranch : y_H_drawBranch.cls = "HistoryJudge" ∧ y_H_drawBranch.cls ≠ "java/lang/invoke/MethodHandle" ∧ y_H_drawBranch.cls ≠ "java/lang/invoke/VarHandle" ∧ (parseMethodDescriptor y_H_drawBranch.desc).map (fun d => d.parameters.length) = some 2 := by decide +kernel
theorem hy_P_lower : y_P_lower.cls = "HistoryJudge$Program" ∧ y_P_lower.cls ≠ "java/lang/invoke/MethodHandle" ∧ y_P_lower.cls ≠ "java/lang/invoke/VarHandle" ∧ (parseMethodDescriptor y_P_lower.desc).map (fun d => d.parameters.length) = some 2 := by decide +kernel
theorem hy_P_hasRoom : y_P_hasRoom.cls = "HistoryJudge$Program" ∧ y_P_hasRoom.cls ≠ "java/lang/invoke/MethodHandle" ∧ y_P_hasRoom.cls ≠ "java/lang/invoke/VarHandle" ∧ (parseMethodDescriptor y_P_hasRoom.desc).map (fun d => d.parameters.length) = some 1 := by decide +kernel
theorem hy_P_promote : y_P_promote.cls = "HistoryJudge$Program" ∧ y_P_promote.cls ≠ "java/lang/invoke/MethodHandle" ∧ y_P_promote.cls ≠ "java/lang/invoke/VarHandle" ∧ (parseMethodDescriptor y_P_promote.desc).map (fun d => d.parameters.length) = some 1 := by decide +kernel
theorem hy_P_isNeeded : y_P_isNeeded.cls = "HistoryJudge$Program" ∧ y_P_isNeeded.cls ≠ "java/lang/invoke/MethodHandle" ∧ y_P_isNeeded.cls ≠ "java/lang/invoke/VarHandle" ∧ (parseMethodDescriptor y_P_isNeeded.desc).map (fun d => d.parameters.length) = some 1 := by decide +kernel
theorem hy_P_branchOf : y_P_branchOf.cls = "HistoryJudge$Program" ∧ y_P_branchOf.cls ≠ "java/lang/invoke/MethodHandle" ∧ y_P_branchOf.cls ≠ "java/lang/invoke/VarHandle" ∧ (parseMethodDescriptor y_P_branchOf.desc).map (fun d => d.parameters.length) = some 1 := by decide +kernel
theorem hy_P_remove : y_P_remove.cls = "HistoryJudge$Program" ∧ y_P_remove.cls ≠ "java/lang/invoke/MethodHandle" ∧ y_P_remove.cls ≠ "java/lang/invoke/VarHandle" ∧ (parseMethodDescriptor y_P_remove.desc).map (fun d => d.parameters.length) = some 1 := by decide +kernel
theorem hy_H_prepareCandidate : y_H_prepareCandidate.cls = "HistoryJudge" ∧ y_H_prepareCandidate.cls ≠ "java/lang/invoke/MethodHandle" ∧ y_H_prepareCandidate.cls ≠ "java/lang/invoke/VarHandle" ∧ (parseMethodDescriptor y_H_prepareCandidate.desc).map (fun d => d.parameters.length) = some 1 := by decide +kernel
theorem hy_P_mayTake : y_P_mayTake.cls = "HistoryJudge$Program" ∧ y_P_mayTake.cls ≠ "java/lang/invoke/MethodHandle" ∧ y_P_mayTake.cls ≠ "java/lang/invoke/VarHandle" ∧ (parseMethodDescriptor y_P_mayTake.desc).map (fun d => d.parameters.length) = some 2 := by decide +kernel
theorem hy_O_answer : y_O_answer.cls = "HistoryJudge$Model" ∧ y_O_answer.cls ≠ "java/lang/invoke/MethodHandle" ∧ y_O_answer.cls ≠ "java/lang/invoke/VarHandle" ∧ (parseMethodDescriptor y_O_answer.desc).map (fun d => d.parameters.length) = some 4 := by decide +kernel
theorem hy_R_thrown : y_R_thrown.cls = "HistoryJudgeModel" ∧ y_R_thrown.cls ≠ "java/lang/invoke/MethodHandle" ∧ y_R_thrown.cls ≠ "java/lang/invoke/VarHandle" ∧ (parseMethodDescriptor y_R_thrown.desc).map (fun d => d.parameters.length) = some 0 := by decide +kernel
theorem hy_R_fail : y_R_fail.cls = "HistoryJudgeModel" ∧ y_R_fail.cls ≠ "java/lang/invoke/MethodHandle" ∧ y_R_fail.cls ≠ "java/lang/invoke/VarHandle" ∧ (parseMethodDescriptor y_R_fail.desc).map (fun d => d.parameters.length) = some 1 := by decide +kernel
theorem hy_R_within : y_R_within.cls = "HistoryJudgeModel" ∧ y_R_within.cls ≠ "java/lang/invoke/MethodHandle" ∧ y_R_within.cls ≠ "java/lang/invoke/VarHandle" ∧ (parseMethodDescriptor y_R_within.desc).map (fun d => d.parameters.length) = some 3 := by decide +kernel
theorem hy_R_many : y_R_many.cls = "HistoryJudgeModel" ∧ y_R_many.cls ≠ "java/lang/invoke/MethodHandle" ∧ y_R_many.cls ≠ "java/lang/invoke/VarHandle" ∧ (parseMethodDescriptor y_R_many.desc).map (fun d => d.parameters.length) = some 0 := by decide +kernel
theorem hy_R_branch : y_R_branch.cls = "HistoryJudgeModel" ∧ y_R_branch.cls ≠ "java/lang/invoke/MethodHandle" ∧ y_R_branch.cls ≠ "java/lang/invoke/VarHandle" ∧ (parseMethodDescriptor y_R_branch.desc).map (fun d => d.parameters.length) = some 1 := by decide +kernel
theorem hy_R_first : y_R_first.cls = "HistoryJudgeModel" ∧ y_R_first.cls ≠ "java/lang/invoke/MethodHandle" ∧ y_R_first.cls ≠ "java/lang/invoke/VarHandle" ∧ (parseMethodDescriptor y_R_first.desc).map (fun d => d.parameters.length) = some 1 := by decide +kernel
theorem hy_R_mayStand : y_R_mayStand.cls = "HistoryJudgeModel" ∧ y_R_mayStand.cls ≠ "java/lang/invoke/MethodHandle" ∧ y_R_mayStand.cls ≠ "java/lang/invoke/VarHandle" ∧ (parseMethodDescriptor y_R_mayStand.desc).map (fun d => d.parameters.length) = some 3 := by decide +kernel
theorem hy_R_placed : y_R_placed.cls = "HistoryJudgeModel" ∧ y_R_placed.cls ≠ "java/lang/invoke/MethodHandle" ∧ y_R_placed.cls ≠ "java/lang/invoke/VarHandle" ∧ (parseMethodDescriptor y_R_placed.desc).map (fun d => d.parameters.length) = some 2 := by decide +kernel
theorem hy_R_isOrder : y_R_isOrder.cls = "HistoryJudgeModel" ∧ y_R_isOrder.cls ≠ "java/lang/invoke/MethodHandle" ∧ y_R_isOrder.cls ≠ "java/lang/invoke/VarHandle" ∧ (parseMethodDescriptor y_R_isOrder.desc).map (fun d => d.parameters.length) = some 1 := by decide +kernel
theorem hy_R_finds : y_R_finds.cls = "HistoryJudgeModel" ∧ y_R_finds.cls ≠ "java/lang/invoke/MethodHandle" ∧ y_R_finds.cls ≠ "java/lang/invoke/VarHandle" ∧ (parseMethodDescriptor y_R_finds.desc).map (fun d => d.parameters.length) = some 1 := by decide +kernel
theorem hy_R_fits : y_R_fits.cls = "HistoryJudgeModel" ∧ y_R_fits.cls ≠ "java/lang/invoke/MethodHandle" ∧ y_R_fits.cls ≠ "java/lang/invoke/VarHandle" ∧ (parseMethodDescriptor y_R_fits.desc).map (fun d => d.parameters.length) = some 1 := by decide +kernel
theorem hy_R_valid : y_R_valid.cls = "HistoryJudgeModel" ∧ y_R_valid.cls ≠ "java/lang/invoke/MethodHandle" ∧ y_R_valid.cls ≠ "java/lang/invoke/VarHandle" ∧ (parseMethodDescriptor y_R_valid.desc).map (fun d => d.parameters.length) = some 0 := by decide +kernel
theorem hy_R_keep : y_R_keep.cls = "HistoryJudgeModel" ∧ y_R_keep.cls ≠ "java/lang/invoke/MethodHandle" ∧ y_R_keep.cls ≠ "java/lang/invoke/VarHandle" ∧ (parseMethodDescriptor y_R_keep.desc).map (fun d => d.parameters.length) = some 0 := by decide +kernel
theorem hy_R_putBack : y_R_putBack.cls = "HistoryJudgeModel" ∧ y_R_putBack.cls ≠ "java/lang/invoke/MethodHandle" ∧ y_R_putBack.cls ≠ "java/lang/invoke/VarHandle" ∧ (parseMethodDescriptor y_R_putBack.desc).map (fun d => d.parameters.length) = some 0 := by decide +kernel
theorem hy_R_copy : y_R_copy.cls = "HistoryJudgeModel" ∧ y_R_copy.cls ≠ "java/lang/invoke/MethodHandle" ∧ y_R_copy.cls ≠ "java/lang/invoke/VarHandle" ∧ (parseMethodDescriptor y_R_copy.desc).map (fun d => d.parameters.length) = some 2 := by decide +kernel
theorem hy_R_insert : y_R_insert.cls = "HistoryJudgeModel" ∧ y_R_insert.cls ≠ "java/lang/invoke/MethodHandle" ∧ y_R_insert.cls ≠ "java/lang/invoke/VarHandle" ∧ (parseMethodDescriptor y_R_insert.desc).map (fun d => d.parameters.length) = some 4 := by decide +kernel
theorem hy_R_leaveOut : y_R_leaveOut.cls = "HistoryJudgeModel" ∧ y_R_leaveOut.cls ≠ "java/lang/invoke/MethodHandle" ∧ y_R_leaveOut.cls ≠ "java/lang/invoke/VarHandle" ∧ (parseMethodDescriptor y_R_leaveOut.desc).map (fun d => d.parameters.length) = some 1 := by decide +kernel
theorem hy_R_raise : y_R_raise.cls = "HistoryJudgeModel" ∧ y_R_raise.cls ≠ "java/lang/invoke/MethodHandle" ∧ y_R_raise.cls ≠ "java/lang/invoke/VarHandle" ∧ (parseMethodDescriptor y_R_raise.desc).map (fun d => d.parameters.length) = some 1 := by decide +kernel
theorem hy_R_add : y_R_add.cls = "HistoryJudgeModel" ∧ y_R_add.cls ≠ "java/lang/invoke/MethodHandle" ∧ y_R_add.cls ≠ "java/lang/invoke/VarHandle" ∧ (parseMethodDescriptor y_R_add.desc).map (fun d => d.parameters.length) = some 4 := by decide +kernel
theorem hy_R_clear : y_R_clear.cls = "HistoryJudgeModel" ∧ y_R_clear.cls ≠ "java/lang/invoke/MethodHandle" ∧ y_R_clear.cls ≠ "java/lang/invoke/VarHandle" ∧ (parseMethodDescriptor y_R_clear.desc).map (fun d => d.parameters.length) = some 0 := by decide +kernel
theorem hy_R_drawn : y_R_drawn.cls = "HistoryJudgeModel" ∧ y_R_drawn.cls ≠ "java/lang/invoke/MethodHandle" ∧ y_R_drawn.cls ≠ "java/lang/invoke/VarHandle" ∧ (parseMethodDescriptor y_R_drawn.desc).map (fun d => d.parameters.length) = some 1 := by decide +kernel
theorem hy_R_before : y_R_before.cls = "HistoryJudgeModel" ∧ y_R_before.cls ≠ "java/lang/invoke/MethodHandle" ∧ y_R_before.cls ≠ "java/lang/invoke/VarHandle" ∧ (parseMethodDescriptor y_R_before.desc).map (fun d => d.parameters.length) = some 3 := by decide +kernel
theorem hy_R_tried : y_R_tried.cls = "HistoryJudgeModel" ∧ y_R_tried.cls ≠ "java/lang/invoke/MethodHandle" ∧ y_R_tried.cls ≠ "java/lang/invoke/VarHandle" ∧ (parseMethodDescriptor y_R_tried.desc).map (fun d => d.parameters.length) = some 1 := by decide +kernel
theorem hy_R_make : y_R_make.cls = "HistoryJudgeModel" ∧ y_R_make.cls ≠ "java/lang/invoke/MethodHandle" ∧ y_R_make.cls ≠ "java/lang/invoke/VarHandle" ∧ (parseMethodDescriptor y_R_make.desc).map (fun d => d.parameters.length) = some 4 := by decide +kernel
theorem hy_R_flaws : y_R_flaws.cls = "HistoryJudgeModel" ∧ y_R_flaws.cls ≠ "java/lang/invoke/MethodHandle" ∧ y_R_flaws.cls ≠ "java/lang/invoke/VarHandle" ∧ (parseMethodDescriptor y_R_flaws.desc).map (fun d => d.parameters.length) = some 1 := by decide +kernel
theorem hy_R_twoParts : y_R_twoParts.cls = "HistoryJudgeModel" ∧ y_R_twoParts.cls ≠ "java/lang/invoke/MethodHandle" ∧ y_R_twoParts.cls ≠ "java/lang/invoke/VarHandle" ∧ (parseMethodDescriptor y_R_twoParts.desc).map (fun d => d.parameters.length) = some 1 := by decide +kernel
theorem hy_R_isLate : y_R_isLate.cls = "HistoryJudgeModel" ∧ y_R_isLate.cls ≠ "java/lang/invoke/MethodHandle" ∧ y_R_isLate.cls ≠ "java/lang/invoke/VarHandle" ∧ (parseMethodDescriptor y_R_isLate.desc).map (fun d => d.parameters.length) = some 1 := by decide +kernel
theorem hy_R_source : y_R_source.cls = "HistoryJudgeModel" ∧ y_R_source.cls ≠ "java/lang/invoke/MethodHandle" ∧ y_R_source.cls ≠ "java/lang/invoke/VarHandle" ∧ (parseMethodDescriptor y_R_source.desc).map (fun d => d.parameters.length) = some 1 := by decide +kernel
theorem hy_R_does : y_R_does.cls = "HistoryJudgeModel" ∧ y_R_does.cls ≠ "java/lang/invoke/MethodHandle" ∧ y_R_does.cls ≠ "java/lang/invoke/VarHandle" ∧ (parseMethodDescriptor y_R_does.desc).map (fun d => d.parameters.length) = some 1 := by decide +kernel
theorem hy_R_calls : y_R_calls.cls = "HistoryJudgeModel" ∧ y_R_calls.cls ≠ "java/lang/invoke/MethodHandle" ∧ y_R_calls.cls ≠ "java/lang/invoke/VarHandle" ∧ (parseMethodDescriptor y_R_calls.desc).map (fun d => d.parameters.length) = some 1 := by decide +kernel
theorem hy_R_events : y_R_events.cls = "HistoryJudgeModel" ∧ y_R_events.cls ≠ "java/lang/invoke/MethodHandle" ∧ y_R_events.cls ≠ "java/lang/invoke/VarHandle" ∧ (parseMethodDescriptor y_R_events.desc).map (fun d => d.parameters.length) = some 1 := by decide +kernel
theorem hy_R_happens : y_R_happens.cls = "HistoryJudgeModel" ∧ y_R_happens.cls ≠ "java/lang/invoke/MethodHandle" ∧ y_R_happens.cls ≠ "java/lang/invoke/VarHandle" ∧ (parseMethodDescriptor y_R_happens.desc).map (fun d => d.parameters.length) = some 3 := by decide +kernel
theorem hy_R_hasLeft : y_R_hasLeft.cls = "HistoryJudgeModel" ∧ y_R_hasLeft.cls ≠ "java/lang/invoke/MethodHandle" ∧ y_R_hasLeft.cls ≠ "java/lang/invoke/VarHandle" ∧ (parseMethodDescriptor y_R_hasLeft.desc).map (fun d => d.parameters.length) = some 1 := by decide +kernel
theorem hy_R_go : y_R_go.cls = "HistoryJudgeModel" ∧ y_R_go.cls ≠ "java/lang/invoke/MethodHandle" ∧ y_R_go.cls ≠ "java/lang/invoke/VarHandle" ∧ (parseMethodDescriptor y_R_go.desc).map (fun d => d.parameters.length) = some 1 := by decide +kernel
theorem hy_R_right : y_R_right.cls = "HistoryJudgeModel" ∧ y_R_right.cls ≠ "java/lang/invoke/MethodHandle" ∧ y_R_right.cls ≠ "java/lang/invoke/VarHandle" ∧ (parseMethodDescriptor y_R_right.desc).map (fun d => d.parameters.length) = some 1 := by decide +kernel
theorem hy_R_explains : y_R_explains.cls = "HistoryJudgeModel" ∧ y_R_explains.cls ≠ "java/lang/invoke/MethodHandle" ∧ y_R_explains.cls ≠ "java/lang/invoke/VarHandle" ∧ (parseMethodDescriptor y_R_explains.desc).map (fun d => d.parameters.length) = some 1 := by decide +kernel
theorem hy_R_judged : y_R_judged.cls = "HistoryJudgeModel" ∧ y_R_judged.cls ≠ "java/lang/invoke/MethodHandle" ∧ y_R_judged.cls ≠ "java/lang/invoke/VarHandle" ∧ (parseMethodDescriptor y_R_judged.desc).map (fun d => d.parameters.length) = some 1 := by decide +kernel
theorem hy_R_run : y_R_run.cls = "HistoryJudgeModel" ∧ y_R_run.cls ≠ "java/lang/invoke/MethodHandle" ∧ y_R_run.cls ≠ "java/lang/invoke/VarHandle" ∧ (parseMethodDescriptor y_R_run.desc).map (fun d => d.parameters.length) = some 1 := by decide +kernel
theorem hy_R_failed : y_R_failed.cls = "HistoryJudgeModel" ∧ y_R_failed.cls ≠ "java/lang/invoke/MethodHandle" ∧ y_R_failed.cls ≠ "java/lang/invoke/VarHandle" ∧ (parseMethodDescriptor y_R_failed.desc).map (fun d => d.parameters.length) = some 2 := by decide +kernel
theorem hy_R_fails : y_R_fails.cls = "HistoryJudgeModel" ∧ y_R_fails.cls ≠ "java/lang/invoke/MethodHandle" ∧ y_R_fails.cls ≠ "java/lang/invoke/VarHandle" ∧ (parseMethodDescriptor y_R_fails.desc).map (fun d => d.parameters.length) = some 2 := by decide +kernel
theorem hy_R_takes : y_R_takes.cls = "HistoryJudgeModel" ∧ y_R_takes.cls ≠ "java/lang/invoke/MethodHandle" ∧ y_R_takes.cls ≠ "java/lang/invoke/VarHandle" ∧ (parseMethodDescriptor y_R_takes.desc).map (fun d => d.parameters.length) = some 3 := by decide +kernel
theorem hy_R_smaller : y_R_smaller.cls = "HistoryJudgeModel" ∧ y_R_smaller.cls ≠ "java/lang/invoke/MethodHandle" ∧ y_R_smaller.cls ≠ "java/lang/invoke/VarHandle" ∧ (parseMethodDescriptor y_R_smaller.desc).map (fun d => d.parameters.length) = some 2 := by decide +kernel
theorem hy_R_shrink : y_R_shrink.cls = "HistoryJudgeModel" ∧ y_R_shrink.cls ≠ "java/lang/invoke/MethodHandle" ∧ y_R_shrink.cls ≠ "java/lang/invoke/VarHandle" ∧ (parseMethodDescriptor y_R_shrink.desc).map (fun d => d.parameters.length) = some 2 := by decide +kernel
theorem hy_R_command : y_R_command.cls = "HistoryJudgeModel" ∧ y_R_command.cls ≠ "java/lang/invoke/MethodHandle" ∧ y_R_command.cls ≠ "java/lang/invoke/VarHandle" ∧ (parseMethodDescriptor y_R_command.desc).map (fun d => d.parameters.length) = some 2 := by decide +kernel
theorem hy_R_event : y_R_event.cls = "HistoryJudgeModel" ∧ y_R_event.cls ≠ "java/lang/invoke/MethodHandle" ∧ y_R_event.cls ≠ "java/lang/invoke/VarHandle" ∧ (parseMethodDescriptor y_R_event.desc).map (fun d => d.parameters.length) = some 2 := by decide +kernel
theorem hy_R_order : y_R_order.cls = "HistoryJudgeModel" ∧ y_R_order.cls ≠ "java/lang/invoke/MethodHandle" ∧ y_R_order.cls ≠ "java/lang/invoke/VarHandle" ∧ (parseMethodDescriptor y_R_order.desc).map (fun d => d.parameters.length) = some 1 := by decide +kernel
theorem hy_R_cell : y_R_cell.cls = "HistoryJudgeModel" ∧ y_R_cell.cls ≠ "java/lang/invoke/MethodHandle" ∧ y_R_cell.cls ≠ "java/lang/invoke/VarHandle" ∧ (parseMethodDescriptor y_R_cell.desc).map (fun d => d.parameters.length) = some 1 := by decide +kernel
theorem hy_R_count : y_R_count.cls = "HistoryJudgeModel" ∧ y_R_count.cls ≠ "java/lang/invoke/MethodHandle" ∧ y_R_count.cls ≠ "java/lang/invoke/VarHandle" ∧ (parseMethodDescriptor y_R_count.desc).map (fun d => d.parameters.length) = some 1 := by decide +kernel
theorem hy_R_tally : y_R_tally.cls = "HistoryJudgeModel" ∧ y_R_tally.cls ≠ "java/lang/invoke/MethodHandle" ∧ y_R_tally.cls ≠ "java/lang/invoke/VarHandle" ∧ (parseMethodDescriptor y_R_tally.desc).map (fun d => d.parameters.length) = some 1 := by decide +kernel
theorem hy_M_numberOf : y_M_numberOf.cls = "HistoryJudge$Machine" ∧ y_M_numberOf.cls ≠ "java/lang/invoke/MethodHandle" ∧ y_M_numberOf.cls ≠ "java/lang/invoke/VarHandle" ∧ (parseMethodDescriptor y_M_numberOf.desc).map (fun d => d.parameters.length) = some 1 := by decide +kernel
theorem hy_M_isSplit : y_M_isSplit.cls = "HistoryJudge$Machine" ∧ y_M_isSplit.cls ≠ "java/lang/invoke/MethodHandle" ∧ y_M_isSplit.cls ≠ "java/lang/invoke/VarHandle" ∧ (parseMethodDescriptor y_M_isSplit.desc).map (fun d => d.parameters.length) = some 1 := by decide +kernel
theorem hy_M_isLate : y_M_isLate.cls = "HistoryJudge$Machine" ∧ y_M_isLate.cls ≠ "java/lang/invoke/MethodHandle" ∧ y_M_isLate.cls ≠ "java/lang/invoke/VarHandle" ∧ (parseMethodDescriptor y_M_isLate.desc).map (fun d => d.parameters.length) = some 1 := by decide +kernel
theorem hy_M_act : y_M_act.cls = "HistoryJudge$Machine" ∧ y_M_act.cls ≠ "java/lang/invoke/MethodHandle" ∧ y_M_act.cls ≠ "java/lang/invoke/VarHandle" ∧ (parseMethodDescriptor y_M_act.desc).map (fun d => d.parameters.length) = some 3 := by decide +kernel
theorem hy_M_actByNote : y_M_actByNote.cls = "HistoryJudge$Machine" ∧ y_M_actByNote.cls ≠ "java/lang/invoke/MethodHandle" ∧ y_M_actByNote.cls ≠ "java/lang/invoke/VarHandle" ∧ (parseMethodDescriptor y_M_actByNote.desc).map (fun d => d.parameters.length) = some 4 := by decide +kernel
theorem hy_M_step : y_M_step.cls = "HistoryJudge$Machine" ∧ y_M_step.cls ≠ "java/lang/invoke/MethodHandle" ∧ y_M_step.cls ≠ "java/lang/invoke/VarHandle" ∧ (parseMethodDescriptor y_M_step.desc).map (fun d => d.parameters.length) = some 3 := by decide +kernel
theorem hy_M_perform : y_M_perform.cls = "HistoryJudge$Machine" ∧ y_M_perform.cls ≠ "java/lang/invoke/MethodHandle" ∧ y_M_perform.cls ≠ "java/lang/invoke/VarHandle" ∧ (parseMethodDescriptor y_M_perform.desc).map (fun d => d.parameters.length) = some 3 := by decide +kernel
theorem hy_J_answersSo : y_J_answersSo.cls = "HistoryJudge$Judge" ∧ y_J_answersSo.cls ≠ "java/lang/invoke/MethodHandle" ∧ y_J_answersSo.cls ≠ "java/lang/invoke/VarHandle" ∧ (parseMethodDescriptor y_J_answersSo.desc).map (fun d => d.parameters.length) = some 4 := by decide +kernel
theorem hy_J_after : y_J_after.cls = "HistoryJudge$Judge" ∧ y_J_after.cls ≠ "java/lang/invoke/MethodHandle" ∧ y_J_after.cls ≠ "java/lang/invoke/VarHandle" ∧ (parseMethodDescriptor y_J_after.desc).map (fun d => d.parameters.length) = some 4 := by decide +kernel
theorem hy_J_search : y_J_search.cls = "HistoryJudge$Judge" ∧ y_J_search.cls ≠ "java/lang/invoke/MethodHandle" ∧ y_J_search.cls ≠ "java/lang/invoke/VarHandle" ∧ (parseMethodDescriptor y_J_search.desc).map (fun d => d.parameters.length) = some 6 := by decide +kernel
theorem hy_J_explains : y_J_explains.cls = "HistoryJudge$Judge" ∧ y_J_explains.cls ≠ "java/lang/invoke/MethodHandle" ∧ y_J_explains.cls ≠ "java/lang/invoke/VarHandle" ∧ (parseMethodDescriptor y_J_explains.desc).map (fun d => d.parameters.length) = some 2 := by decide +kernel
theorem hy_T_test : y_T_test.cls = "HistoryJudge$Tester" ∧ y_T_test.cls ≠ "java/lang/invoke/MethodHandle" ∧ y_T_test.cls ≠ "java/lang/invoke/VarHandle" ∧ (parseMethodDescriptor y_T_test.desc).map (fun d => d.parameters.length) = some 2 := by decide +kernel
theorem hy_D_restart : y_D_restart.cls = "HistoryJudge$Draws" ∧ y_D_restart.cls ≠ "java/lang/invoke/MethodHandle" ∧ y_D_restart.cls ≠ "java/lang/invoke/VarHandle" ∧ (parseMethodDescriptor y_D_restart.desc).map (fun d => d.parameters.length) = some 1 := by decide +kernel
theorem hy_T_firstFailure : y_T_firstFailure.cls = "HistoryJudge$Tester" ∧ y_T_firstFailure.cls ≠ "java/lang/invoke/MethodHandle" ∧ y_T_firstFailure.cls ≠ "java/lang/invoke/VarHandle" ∧ (parseMethodDescriptor y_T_firstFailure.desc).map (fun d => d.parameters.length) = some 3 := by decide +kernel
theorem hy_H_init : y_H_init.cls = "HistoryJudge" ∧ y_H_init.cls ≠ "java/lang/invoke/MethodHandle" ∧ y_H_init.cls ≠ "java/lang/invoke/VarHandle" ∧ (parseMethodDescriptor y_H_init.desc).map (fun d => d.parameters.length) = some 0 := by decide +kernel
theorem hy_P_init : y_P_init.cls = "HistoryJudge$Program" ∧ y_P_init.cls ≠ "java/lang/invoke/MethodHandle" ∧ y_P_init.cls ≠ "java/lang/invoke/VarHandle" ∧ (parseMethodDescriptor y_P_init.desc).map (fun d => d.parameters.length) = some 0 := by decide +kernel
theorem hy_T_init : y_T_init.cls = "HistoryJudge$Tester" ∧ y_T_init.cls ≠ "java/lang/invoke/MethodHandle" ∧ y_T_init.cls ≠ "java/lang/invoke/VarHandle" ∧ (parseMethodDescriptor y_T_init.desc).map (fun d => d.parameters.length) = some 0 := by decide +kernel
theorem hy_M_init : y_M_init.cls = "HistoryJudge$Machine" ∧ y_M_init.cls ≠ "java/lang/invoke/MethodHandle" ∧ y_M_init.cls ≠ "java/lang/invoke/VarHandle" ∧ (parseMethodDescriptor y_M_init.desc).map (fun d => d.parameters.length) = some 0 := by decide +kernel
theorem hy_J_init : y_J_init.cls = "HistoryJudge$Judge" ∧ y_J_init.cls ≠ "java/lang/invoke/MethodHandle" ∧ y_J_init.cls ≠ "java/lang/invoke/VarHandle" ∧ (parseMethodDescriptor y_J_init.desc).map (fun d => d.parameters.length) = some 0 := by decide +kernel
theorem hy_D_init : y_D_init.cls = "HistoryJudge$Draws" ∧ y_D_init.cls ≠ "java/lang/invoke/MethodHandle" ∧ y_D_init.cls ≠ "java/lang/invoke/VarHandle" ∧ (parseMethodDescriptor y_D_init.desc).map (fun d => d.parameters.length) = some 0 := by decide +kernel
theorem hy_R_init : y_R_init.cls = "HistoryJudgeModel" ∧ y_R_init.cls ≠ "java/lang/invoke/MethodHandle" ∧ y_R_init.cls ≠ "java/lang/invoke/VarHandle" ∧ (parseMethodDescriptor y_R_init.desc).map (fun d => d.parameters.length) = some 0 := by decide +kernel
theorem gV_H_79 : GoodIn lg (wsV "HistoryJudge" 79 "HistoryJudge$Program" y_P_size (Jvm.Cond.code y_P_size prog_6_method_2_code 1 (some .int) :: lg)) := ev_goodV hw_3 hw_4 hw_5 hw_6 hw_2
theorem gV_H_83 : GoodIn lg (wsV "HistoryJudge" 83 "HistoryJudge$Program" y_P_empty (Jvm.Cond.code y_P_empty prog_6_method_10_code 2 none :: lg)) := ev_goodV hw_8 hw_9 hw_10 hw_6 hw_7
theorem gV_P_31 : GoodIn lg (wsV "HistoryJudge$Program" 31 "HistoryJudge$Program" y_P_size (Jvm.Cond.code y_P_size prog_6_method_2_code 1 (some .int) :: lg)) := ev_goodV hw_13 hw_4 hw_5 hw_6 hw_2
theorem gV_H_125 : GoodIn lg (wsV "HistoryJudge" 125 "HistoryJudge$Program" y_P_copyFrom (Jvm.Cond.code y_P_copyFrom prog_6_method_11_code 3 none :: lg)) := ev_goodV hw_22 hw_23 hw_24 hw_6 hw_21
theorem gV_P_24 : GoodIn lg (wsV "HistoryJudge$Program" 24 "HistoryJudge$Program" y_P_start (Jvm.Cond.code y_P_start prog_6_method_3_code 2 (some .int) :: lg)) := ev_goodV hw_26 hw_27 hw_28 hw_6 hw_25
theorem gV_P_28 : GoodIn lg (wsV "HistoryJudge$Program" 28 "HistoryJudge$Program" y_P_end (Jvm.Cond.code y_P_end prog_6_method_4_code 2 (some .int) :: lg)) := ev_goodV hw_30 hw_31 hw_32 hw_6 hw_29
theorem gV_P_48 : GoodIn lg (wsV "HistoryJudge$Program" 48 "HistoryJudge$Program" y_P_put (Jvm.Cond.code y_P_put prog_6_method_19_code 5 none :: lg)) := ev_goodV hw_34 hw_35 hw_36 hw_6 hw_33
theorem gV_P_41 : GoodIn lg (wsV "HistoryJudge$Program" 41 "HistoryJudge$Program" y_P_shiftUp (Jvm.Cond.code y_P_shiftUp prog_6_method_20_code 4 none :: lg)) := ev_goodV hw_38 hw_39 hw_40 hw_6 hw_37
theorem gV_P_45 : GoodIn lg (wsV "HistoryJudge$Program" 45 "HistoryJudge$Program" y_P_renumber (Jvm.Cond.code y_P_renumber prog_6_method_21_code 5 none :: lg)) := ev_goodV hw_42 hw_43 hw_44 hw_6 hw_41
theorem gV_H_212 : GoodIn lg (wsV "HistoryJudge" 212 "HistoryJudge$Program" y_P_append (Jvm.Cond.code y_P_append prog_6_method_12_code 6 none :: lg)) := ev_goodV hw_46 hw_47 hw_48 hw_6 hw_45
theorem gS_O_11 : GoodIn lg (va_wsS "HistoryJudge$Model" 11 y_O_isOpen (Jvm.Cond.code y_O_isOpen prog_5_method_4_code 2 (some .boolean) :: lg)) := ev_goodS hw_50 hw_51 hw_52 hw_49
theorem gS_O_15 : GoodIn lg (va_wsS "HistoryJudge$Model" 15 y_O_source (Jvm.Cond.code y_O_source prog_5_method_5_code 1 (some .int) :: lg)) := ev_goodS hw_54 hw_55 hw_52 hw_53
theorem gS_P_64 : GoodIn lg (va_wsS "HistoryJudge$Program" 64 y_O_allows (Jvm.Cond.code y_O_allows prog_5_method_6_code 3 (some .boolean) :: lg)) := ev_goodS hw_57 hw_58 hw_52 hw_56
theorem gS_O_23 : GoodIn lg (va_wsS "HistoryJudge$Model" 23 y_O_content (Jvm.Cond.code y_O_content prog_5_method_2_code 2 (some .int) :: lg)) := ev_goodS hw_60 hw_61 hw_52 hw_59
theorem gS_O_19 : GoodIn lg (va_wsS "HistoryJudge$Model" 19 y_O_held (Jvm.Cond.code y_O_held prog_5_method_3_code 2 (some .int) :: lg)) := ev_goodS hw_63 hw_64 hw_52 hw_62
theorem gS_P_68 : GoodIn lg (va_wsS "HistoryJudge$Program" 68 y_O_after (Jvm.Cond.code y_O_after prog_5_method_8_code 7 (some .int) :: lg)) := ev_goodS hw_66 hw_67 hw_52 hw_65
theorem gV_P_72 : GoodIn lg (wsV "HistoryJudge$Program" 72 "HistoryJudge$Program" y_P_isValidBeside (Jvm.Cond.code y_P_isValidBeside prog_6_method_17_code 6 (some .boolean) :: lg)) := ev_goodV hw_69 hw_70 hw_71 hw_6 hw_68
theorem gV_H_121 : GoodIn lg (wsV "HistoryJudge" 121 "HistoryJudge$Program" y_P_isValid (Jvm.Cond.code y_P_isValid prog_6_method_16_code 5 (some .boolean) :: lg)) := ev_goodV hw_73 hw_74 hw_75 hw_6 hw_72
theorem gV_H_219 : GoodIn lg (wsV "HistoryJudge" 219 "HistoryJudge$Draws" y_D_below (Jvm.Cond.code y_D_below prog_2_method_3_code 3 (some .int) :: lg)) := ev_goodV hw_81 hw_82 hw_83 hw_84 hw_80
theorem gV_H_222 : GoodIn lg (wsV "HistoryJudge" 222 "HistoryJudge$Program" y_P_known (Jvm.Cond.code y_P_known prog_6_method_7_code 2 (some .int) :: lg)) := ev_goodV hw_86 hw_87 hw_88 hw_6 hw_85
theorem gV_H_70 : GoodIn lg (wsV "HistoryJudge" 70 "HistoryJudge" y_H_appendIfValid (Jvm.Cond.code y_H_appendIfValid prog_1_method_16_code 5 (some .boolean) :: lg)) := ev_goodV hw_90 hw_91 hw_92 hw_93 hw_89
theorem gV_H_225 : GoodIn lg (wsV "HistoryJudge" 225 "HistoryJudge$Program" y_P_knownAt (Jvm.Cond.code y_P_knownAt prog_6_method_8_code 3 (some .int) :: lg)) := ev_goodV hw_95 hw_96 hw_97 hw_6 hw_94
theorem gV_H_216 : GoodIn lg (wsV "HistoryJudge" 216 "HistoryJudge" y_H_drawCommand (Jvm.Cond.code y_H_drawCommand prog_1_method_18_code 7 (some .boolean) :: lg)) := ev_goodV hw_99 hw_100 hw_101 hw_93 hw_98
theorem gV_H_234 : GoodIn lg (wsV "HistoryJudge" 234 "HistoryJudge$Program" y_P_lower (Jvm.Cond.code y_P_lower prog_6_method_15_code 4 (some .boolean) :: lg)) := ev_goodV hw_103 hw_104 hw_105 hw_6 hw_102
theorem gV_P_59 : GoodIn lg (wsV "HistoryJudge$Program" 59 "HistoryJudge$Program" y_P_hasRoom (Jvm.Cond.code y_P_hasRoom prog_6_method_6_code 2 (some .boolean) :: lg)) := ev_goodV hw_107 hw_108 hw_109 hw_6 hw_106
theorem gV_H_231 : GoodIn lg (wsV "HistoryJudge" 231 "HistoryJudge$Program" y_P_promote (Jvm.Cond.code y_P_promote prog_6_method_14_code 10 (some .boolean) :: lg)) := ev_goodV hw_111 hw_112 hw_113 hw_6 hw_110
theorem gV_P_52 : GoodIn lg (wsV "HistoryJudge$Program" 52 "HistoryJudge$Program" y_P_isNeeded (Jvm.Cond.code y_P_isNeeded prog_6_method_18_code 4 (some .boolean) :: lg)) := ev_goodV hw_115 hw_116 hw_117 hw_6 hw_114
theorem gV_P_56 : GoodIn lg (wsV "HistoryJudge$Program" 56 "HistoryJudge$Program" y_P_branchOf (Jvm.Cond.code y_P_branchOf prog_6_method_5_code 2 (some .int) :: lg)) := ev_goodV hw_119 hw_120 hw_121 hw_6 hw_118
theorem gV_H_228 : GoodIn lg (wsV "HistoryJudge" 228 "HistoryJudge$Program" y_P_remove (Jvm.Cond.code y_P_remove prog_6_method_13_code 4 (some .boolean) :: lg)) := ev_goodV hw_123 hw_124 hw_125 hw_6 hw_122
theorem gV_R_69 : GoodIn lg (wsV "HistoryJudgeModel" 69 "HistoryJudgeModel" y_R_branch (Jvm.Cond.code y_R_branch prog_9_method_6_code 2 (some .int) :: lg)) := ev_goodV hw_129 hw_130 hw_131 hw_132 hw_128
theorem gV_R_73 : GoodIn lg (wsV "HistoryJudgeModel" 73 "HistoryJudgeModel" y_R_first (Jvm.Cond.code y_R_first prog_9_method_7_code 2 (some .int) :: lg)) := ev_goodV hw_134 hw_135 hw_136 hw_132 hw_133
theorem gV_R_80 : GoodIn lg (wsV "HistoryJudgeModel" 80 "HistoryJudgeModel" y_R_placed (Jvm.Cond.code y_R_placed prog_9_method_9_code 6 (some .int) :: lg)) := ev_goodV hw_141 hw_142 hw_143 hw_132 hw_140
theorem gV_R_76 : GoodIn lg (wsV "HistoryJudgeModel" 76 "HistoryJudgeModel" y_R_finds (Jvm.Cond.code y_R_finds prog_9_method_11_code 4 (some .boolean) :: lg)) := ev_goodV hw_145 hw_146 hw_147 hw_132 hw_144
theorem gV_R_84 : GoodIn lg (wsV "HistoryJudgeModel" 84 "HistoryJudgeModel" y_R_many (Jvm.Cond.code y_R_many prog_9_method_5_code 1 (some .int) :: lg)) := ev_goodV hw_149 hw_150 hw_151 hw_132 hw_148
theorem gV_R_92 : GoodIn lg (wsV "HistoryJudgeModel" 92 "HistoryJudgeModel" y_R_isOrder (Jvm.Cond.code y_R_isOrder prog_9_method_10_code 4 (some .boolean) :: lg)) := ev_goodV hw_153 hw_154 hw_155 hw_132 hw_152
theorem gV_R_95 : GoodIn lg (wsV "HistoryJudgeModel" 95 "HistoryJudgeModel" y_R_fits (Jvm.Cond.code y_R_fits prog_9_method_12_code 4 (some .boolean) :: lg)) := ev_goodV hw_157 hw_158 hw_159 hw_132 hw_156
theorem gV_R_88 : GoodIn lg (wsV "HistoryJudgeModel" 88 "HistoryJudgeModel" y_R_mayStand (Jvm.Cond.code y_R_mayStand prog_9_method_8_code 4 (some .boolean) :: lg)) := ev_goodV hw_162 hw_163 hw_164 hw_132 hw_161
theorem gV_R_98 : GoodIn lg (wsV "HistoryJudgeModel" 98 "HistoryJudgeModel" y_R_copy (Jvm.Cond.code y_R_copy prog_9_method_16_code 3 none :: lg)) := ev_goodV hw_168 hw_169 hw_170 hw_132 hw_167
theorem gS_R_102 : GoodIn lg (va_wsS "HistoryJudgeModel" 102 y_R_within (Jvm.Cond.code y_R_within prog_9_method_4_code 3 (some .boolean) :: lg)) := ev_goodS hw_172 hw_173 hw_132 hw_171
theorem gV_R_105 : GoodIn lg (wsV "HistoryJudgeModel" 105 "HistoryJudgeModel" y_R_fail (Jvm.Cond.code y_R_fail prog_9_method_3_code 2 (some .int) :: lg)) := ev_goodV hw_175 hw_176 hw_177 hw_132 hw_174
theorem gV_R_108 : GoodIn lg (wsV "HistoryJudgeModel" 108 "HistoryJudgeModel" y_R_keep (Jvm.Cond.code y_R_keep prog_9_method_14_code 2 none :: lg)) := ev_goodV hw_179 hw_180 hw_181 hw_132 hw_178
theorem gV_R_111 : GoodIn lg (wsV "HistoryJudgeModel" 111 "HistoryJudgeModel" y_R_insert (Jvm.Cond.code y_R_insert prog_9_method_17_code 7 (some .int) :: lg)) := ev_goodV hw_183 hw_184 hw_185 hw_132 hw_182
theorem gV_R_115 : GoodIn lg (wsV "HistoryJudgeModel" 115 "HistoryJudgeModel" y_R_valid (Jvm.Cond.code y_R_valid prog_9_method_13_code 4 (some .boolean) :: lg)) := ev_goodV hw_187 hw_188 hw_189 hw_132 hw_186
theorem gV_R_119 : GoodIn lg (wsV "HistoryJudgeModel" 119 "HistoryJudgeModel" y_R_putBack (Jvm.Cond.code y_R_putBack prog_9_method_15_code 2 none :: lg)) := ev_goodV hw_192 hw_193 hw_194 hw_132 hw_191
theorem gV_R_134 : GoodIn lg (wsV "HistoryJudgeModel" 134 "HistoryJudgeModel" y_R_drawn (Jvm.Cond.code y_R_drawn prog_9_method_22_code 2 (some .int) :: lg)) := ev_goodV hw_199 hw_200 hw_201 hw_132 hw_198
theorem gV_R_137 : GoodIn lg (wsV "HistoryJudgeModel" 137 "HistoryJudgeModel" y_R_before (Jvm.Cond.code y_R_before prog_9_method_24_code 6 (some .int) :: lg)) := ev_goodV hw_203 hw_204 hw_205 hw_132 hw_202
theorem gV_R_141 : GoodIn lg (wsV "HistoryJudgeModel" 141 "HistoryJudgeModel" y_R_clear (Jvm.Cond.code y_R_clear prog_9_method_21_code 3 (some .int) :: lg)) := ev_goodV hw_207 hw_208 hw_209 hw_132 hw_206
theorem gV_R_144 : GoodIn lg (wsV "HistoryJudgeModel" 144 "HistoryJudgeModel" y_R_tried (Jvm.Cond.code y_R_tried prog_9_method_23_code 12 none :: lg)) := ev_goodV hw_211 hw_212 hw_213 hw_132 hw_210
theorem gV_R_151 : GoodIn lg (wsV "HistoryJudgeModel" 151 "HistoryJudgeModel" y_R_isLate (Jvm.Cond.code y_R_isLate prog_9_method_28_code 2 (some .boolean) :: lg)) := ev_goodV hw_221 hw_222 hw_223 hw_132 hw_220
theorem gV_R_154 : GoodIn lg (wsV "HistoryJudgeModel" 154 "HistoryJudgeModel" y_R_twoParts (Jvm.Cond.code y_R_twoParts prog_9_method_27_code 2 (some .boolean) :: lg)) := ev_goodV hw_225 hw_226 hw_227 hw_132 hw_224
theorem gV_R_163 : GoodIn lg (wsV "HistoryJudgeModel" 163 "HistoryJudgeModel" y_R_does (Jvm.Cond.code y_R_does prog_9_method_30_code 5 none :: lg)) := ev_goodV hw_230 hw_231 hw_232 hw_132 hw_229
theorem gV_R_160 : GoodIn lg (wsV "HistoryJudgeModel" 160 "HistoryJudgeModel" y_R_source (Jvm.Cond.code y_R_source prog_9_method_29_code 2 (some .int) :: lg)) := ev_goodV hw_234 hw_235 hw_236 hw_132 hw_233
theorem gV_R_157 : GoodIn lg (wsV "HistoryJudgeModel" 157 "HistoryJudgeModel" y_R_calls (Jvm.Cond.code y_R_calls prog_9_method_31_code 2 none :: lg)) := ev_goodV hw_238 hw_239 hw_240 hw_132 hw_237
theorem gV_R_173 : GoodIn lg (wsV "HistoryJudgeModel" 173 "HistoryJudgeModel" y_R_hasLeft (Jvm.Cond.code y_R_hasLeft prog_9_method_34_code 2 (some .boolean) :: lg)) := ev_goodV hw_244 hw_245 hw_246 hw_132 hw_243
theorem gV_R_169 : GoodIn lg (wsV "HistoryJudgeModel" 169 "HistoryJudgeModel" y_R_happens (Jvm.Cond.code y_R_happens prog_9_method_33_code 5 none :: lg)) := ev_goodV hw_249 hw_250 hw_251 hw_132 hw_248
theorem gV_R_166 : GoodIn lg (wsV "HistoryJudgeModel" 166 "HistoryJudgeModel" y_R_events (Jvm.Cond.code y_R_events prog_9_method_32_code 2 (some .int) :: lg)) := ev_goodV hw_253 hw_254 hw_255 hw_132 hw_252
theorem gV_R_176 : GoodIn lg (wsV "HistoryJudgeModel" 176 "HistoryJudgeModel" y_R_right (Jvm.Cond.code y_R_right prog_9_method_36_code 5 (some .int) :: lg)) := ev_goodV hw_258 hw_259 hw_260 hw_132 hw_257
theorem gV_R_179 : GoodIn lg (wsV "HistoryJudgeModel" 179 "HistoryJudgeModel" y_R_go (Jvm.Cond.code y_R_go prog_9_method_35_code 4 none :: lg)) := ev_goodV hw_262 hw_263 hw_264 hw_132 hw_261
theorem gV_R_188 : GoodIn lg (wsV "HistoryJudgeModel" 188 "HistoryJudgeModel" y_R_explains (Jvm.Cond.code y_R_explains prog_9_method_37_code 7 (some .boolean) :: lg)) := ev_goodV hw_270 hw_271 hw_272 hw_132 hw_269
theorem gV_R_197 : GoodIn lg (wsV "HistoryJudgeModel" 197 "HistoryJudgeModel" y_R_judged (Jvm.Cond.code y_R_judged prog_9_method_38_code 4 (some .boolean) :: lg)) := ev_goodV hw_275 hw_276 hw_277 hw_132 hw_274
theorem gV_R_204 : GoodIn lg (wsV "HistoryJudgeModel" 204 "HistoryJudgeModel" y_R_failed (Jvm.Cond.code y_R_failed prog_9_method_40_code 6 (some .int) :: lg)) := ev_goodV hw_281 hw_282 hw_283 hw_132 hw_280
theorem gV_R_211 : GoodIn lg (wsV "HistoryJudgeModel" 211 "HistoryJudgeModel" y_R_takes (Jvm.Cond.code y_R_takes prog_9_method_42_code 5 (some .boolean) :: lg)) := ev_goodV hw_285 hw_286 hw_287 hw_132 hw_284
theorem gV_R_215 : GoodIn lg (wsV "HistoryJudgeModel" 215 "HistoryJudgeModel" y_R_raise (Jvm.Cond.code y_R_raise prog_9_method_19_code 9 none :: lg)) := ev_goodV hw_289 hw_290 hw_291 hw_132 hw_288
theorem gV_R_208 : GoodIn lg (wsV "HistoryJudgeModel" 208 "HistoryJudgeModel" y_R_leaveOut (Jvm.Cond.code y_R_leaveOut prog_9_method_18_code 4 (some .boolean) :: lg)) := ev_goodV hw_293 hw_294 hw_295 hw_132 hw_292
theorem gV_R_218 : GoodIn lg (wsV "HistoryJudgeModel" 218 "HistoryJudgeModel" y_R_smaller (Jvm.Cond.code y_R_smaller prog_9_method_43_code 7 (some .boolean) :: lg)) := ev_goodV hw_297 hw_298 hw_299 hw_132 hw_296
theorem gV_M_48 : GoodIn lg (wsV "HistoryJudge$Machine" 48 "HistoryJudge$Program" y_P_end (Jvm.Cond.code y_P_end prog_6_method_4_code 2 (some .int) :: lg)) := ev_goodV hw_306 hw_31 hw_32 hw_6 hw_29
theorem gV_M_63 : GoodIn lg (wsV "HistoryJudge$Machine" 63 "HistoryJudge$Machine" y_M_numberOf (Jvm.Cond.code y_M_numberOf prog_4_method_4_code 2 (some .int) :: lg)) := ev_goodV hw_316 hw_317 hw_318 hw_319 hw_315
theorem gV_M_66 : GoodIn lg (wsV "HistoryJudge$Machine" 66 "HistoryJudge$Machine" y_M_isSplit (Jvm.Cond.code y_M_isSplit prog_4_method_5_code 2 (some .boolean) :: lg)) := ev_goodV hw_321 hw_322 hw_323 hw_319 hw_320
theorem gS_M_73 : GoodIn lg (va_wsS "HistoryJudge$Machine" 73 y_O_held (Jvm.Cond.code y_O_held prog_5_method_3_code 2 (some .int) :: lg)) := ev_goodS hw_325 hw_64 hw_52 hw_62
theorem gS_M_70 : GoodIn lg (va_wsS "HistoryJudge$Machine" 70 y_O_source (Jvm.Cond.code y_O_source prog_5_method_5_code 1 (some .int) :: lg)) := ev_goodS hw_326 hw_55 hw_52 hw_53
theorem gS_M_92 : GoodIn lg (va_wsS "HistoryJudge$Machine" 92 y_O_answer (Jvm.Cond.code y_O_answer prog_5_method_7_code 4 (some .int) :: lg)) := ev_goodS hw_328 hw_329 hw_52 hw_327
theorem gV_M_85 : GoodIn lg (wsV "HistoryJudge$Machine" 85 "HistoryJudge$Machine" y_M_isLate (Jvm.Cond.code y_M_isLate prog_4_method_6_code 2 (some .boolean) :: lg)) := ev_goodV hw_331 hw_332 hw_333 hw_319 hw_330
theorem gS_M_88 : GoodIn lg (va_wsS "HistoryJudge$Machine" 88 y_O_after (Jvm.Cond.code y_O_after prog_5_method_8_code 7 (some .int) :: lg)) := ev_goodS hw_334 hw_67 hw_52 hw_65
theorem gV_M_81 : GoodIn lg (wsV "HistoryJudge$Machine" 81 "HistoryJudge$Machine" y_M_act (Jvm.Cond.code y_M_act prog_4_method_7_code 4 none :: lg)) := ev_goodV hw_336 hw_337 hw_338 hw_319 hw_335
theorem gV_M_77 : GoodIn lg (wsV "HistoryJudge$Machine" 77 "HistoryJudge$Machine" y_M_actByNote (Jvm.Cond.code y_M_actByNote prog_4_method_8_code 6 none :: lg)) := ev_goodV hw_340 hw_341 hw_342 hw_319 hw_339
theorem gV_M_51 : GoodIn lg (wsV "HistoryJudge$Machine" 51 "HistoryJudge$Machine" y_M_step (Jvm.Cond.code y_M_step prog_4_method_3_code 7 none :: lg)) := ev_goodV hw_345 hw_346 hw_347 hw_319 hw_344
theorem gV_M_42 : GoodIn lg (wsV "HistoryJudge$Machine" 42 "HistoryJudge$Program" y_P_start (Jvm.Cond.code y_P_start prog_6_method_3_code 2 (some .int) :: lg)) := ev_goodV hw_348 hw_27 hw_28 hw_6 hw_25
theorem gV_T_53 : GoodIn lg (wsV "HistoryJudge$Tester" 53 "HistoryJudge$Machine" y_M_perform (Jvm.Cond.code y_M_perform prog_4_method_2_code 11 none :: lg)) := ev_goodV hw_350 hw_351 hw_352 hw_319 hw_349
theorem gV_J_17 : GoodIn lg (wsV "HistoryJudge$Judge" 17 "HistoryJudge$Program" y_P_end (Jvm.Cond.code y_P_end prog_6_method_4_code 2 (some .int) :: lg)) := ev_goodV hw_354 hw_31 hw_32 hw_6 hw_29
theorem gV_J_31 : GoodIn lg (wsV "HistoryJudge$Judge" 31 "HistoryJudge$Program" y_P_start (Jvm.Cond.code y_P_start prog_6_method_3_code 2 (some .int) :: lg)) := ev_goodV hw_355 hw_27 hw_28 hw_6 hw_25
theorem gS_J_55 : GoodIn lg (va_wsS "HistoryJudge$Judge" 55 y_O_answer (Jvm.Cond.code y_O_answer prog_5_method_7_code 4 (some .int) :: lg)) := ev_goodS hw_360 hw_329 hw_52 hw_327
theorem gS_J_23 : GoodIn lg (va_wsS "HistoryJudge$Judge" 23 y_J_answersSo (Jvm.Cond.code y_J_answersSo prog_3_method_4_code 5 (some .boolean) :: lg)) := ev_goodS hw_363 hw_364 hw_365 hw_362
theorem gS_J_62 : GoodIn lg (va_wsS "HistoryJudge$Judge" 62 y_O_after (Jvm.Cond.code y_O_after prog_5_method_8_code 7 (some .int) :: lg)) := ev_goodS hw_366 hw_67 hw_52 hw_65
theorem gS_J_27 : GoodIn lg (va_wsS "HistoryJudge$Judge" 27 y_J_after (Jvm.Cond.code y_J_after prog_3_method_5_code 4 (some .int) :: lg)) := ev_goodS hw_368 hw_369 hw_365 hw_367
theorem gV_J_34 : GoodIn lg (wsV "HistoryJudge$Judge" 34 "HistoryJudge$Judge" y_J_search (Jvm.Cond.code y_J_search prog_3_method_3_code 12 (some .boolean) :: lg)) := ev_goodV hw_371 hw_372 hw_373 hw_365 hw_370
theorem gV_T_57 : GoodIn lg (wsV "HistoryJudge$Tester" 57 "HistoryJudge$Judge" y_J_explains (Jvm.Cond.code y_J_explains prog_3_method_2_code 6 (some .boolean) :: lg)) := ev_goodV hw_377 hw_378 hw_379 hw_365 hw_376
theorem gV_T_61 : GoodIn lg (wsV "HistoryJudge$Tester" 61 "HistoryJudge$Program" y_P_size (Jvm.Cond.code y_P_size prog_6_method_2_code 1 (some .int) :: lg)) := ev_goodV hw_382 hw_4 hw_5 hw_6 hw_2
theorem gV_T_70 : GoodIn lg (wsV "HistoryJudge$Tester" 70 "HistoryJudge$Draws" y_D_restart (Jvm.Cond.code y_D_restart prog_2_method_2_code 3 none :: lg)) := ev_goodV hw_388 hw_389 hw_390 hw_84 hw_387
theorem gV_T_75 : GoodIn lg (wsV "HistoryJudge$Tester" 75 "HistoryJudge$Draws" y_D_below (Jvm.Cond.code y_D_below prog_2_method_3_code 3 (some .int) :: lg)) := ev_goodV hw_392 hw_82 hw_83 hw_84 hw_80
theorem gV_T_79 : GoodIn lg (wsV "HistoryJudge$Tester" 79 "HistoryJudge$Tester" y_T_test (Jvm.Cond.code y_T_test prog_7_method_2_code 5 (some .boolean) :: lg)) := ev_goodV hw_394 hw_395 hw_396 hw_397 hw_393
theorem gI_P_init : GoodIn lg (Jvm.Cond.code y_P_init prog_6_method_1_code 1 none :: lg) := ev_goodI hw_406
theorem gI_M_init : GoodIn lg (Jvm.Cond.code y_M_init prog_4_method_1_code 1 none :: lg) := ev_goodI hw_414
theorem gI_J_init : GoodIn lg (Jvm.Cond.code y_J_init prog_3_method_1_code 1 none :: lg) := ev_goodI hw_419
theorem gI_D_init : GoodIn lg (Jvm.Cond.code y_D_init prog_2_method_1_code 1 none :: lg) := ev_goodI hw_424
theorem gI_T_init : GoodIn lg (Jvm.Cond.code y_T_init prog_7_method_1_code 1 none :: lg) := ev_goodI hw_426
abbrev mu_P_size : ev_mu := (prog_6_method_2_code, 1, (some .int), y_P_size, { frames := 0, cells := 0, slots := 0, locals := 0 }, 0, 0)
abbrev mu_P_empty : ev_mu := (prog_6_method_10_code, 2, none, y_P_empty, { frames := 0, cells := 0, slots := 0, locals := 0 }, 0, 0)
abbrev mu_H_clear : ev_mu := (prog_1_method_3_code, 2, (some .int), y_H_clear, { frames := 1, cells := 0, slots := 0, locals := 21 }, 0, 0)
abbrev mu_H_isBelow : ev_mu := (prog_1_method_15_code, 2, (some .boolean), y_H_isBelow, { frames := 0, cells := 0, slots := 0, locals := 0 }, 0, 0)
abbrev mu_P_copyFrom : ev_mu := (prog_6_method_11_code, 3, none, y_P_copyFrom, { frames := 1, cells := 0, slots := 0, locals := 60 }, 0, 0)
abbrev mu_P_start : ev_mu := (prog_6_method_3_code, 2, (some .int), y_P_start, { frames := 0, cells := 0, slots := 0, locals := 0 }, 0, 0)
abbrev mu_P_end : ev_mu := (prog_6_method_4_code, 2, (some .int), y_P_end, { frames := 1, cells := 0, slots := 0, locals := 21 }, 0, 0)
abbrev mu_P_put : ev_mu := (prog_6_method_19_code, 5, none, y_P_put, { frames := 0, cells := 0, slots := 0, locals := 0 }, 0, 0)
abbrev mu_P_shiftUp : ev_mu := (prog_6_method_20_code, 4, none, y_P_shiftUp, { frames := 1, cells := 0, slots := 0, locals := 24 }, 0, 0)
abbrev mu_P_renumber : ev_mu := (prog_6_method_21_code, 5, none, y_P_renumber, { frames := 1, cells := 0, slots := 0, locals := 20 }, 0, 0)
abbrev mu_P_append : ev_mu := (prog_6_method_12_code, 6, none, y_P_append, { frames := 2, cells := 0, slots := 0, locals := 47 }, 0, 0)
abbrev mu_O_isOpen : ev_mu := (prog_5_method_4_code, 2, (some .boolean), y_O_isOpen, { frames := 0, cells := 0, slots := 0, locals := 0 }, 0, 0)
abbrev mu_O_source : ev_mu := (prog_5_method_5_code, 1, (some .int), y_O_source, { frames := 0, cells := 0, slots := 0, locals := 0 }, 0, 0)
abbrev mu_O_allows : ev_mu := (prog_5_method_6_code, 3, (some .boolean), y_O_allows, { frames := 1, cells := 0, slots := 0, locals := 21 }, 0, 0)
abbrev mu_O_content : ev_mu := (prog_5_method_2_code, 2, (some .int), y_O_content, { frames := 0, cells := 0, slots := 0, locals := 0 }, 0, 0)
abbrev mu_O_held : ev_mu := (prog_5_method_3_code, 2, (some .int), y_O_held, { frames := 0, cells := 0, slots := 0, locals := 0 }, 0, 0)
abbrev mu_O_after : ev_mu := (prog_5_method_8_code, 7, (some .int), y_O_after, { frames := 1, cells := 0, slots := 0, locals := 21 }, 0, 0)
abbrev mu_P_isValidBeside : ev_mu := (prog_6_method_17_code, 6, (some .boolean), y_P_isValidBeside, { frames := 2, cells := 0, slots := 0, locals := 47 }, 0, 0)
abbrev mu_P_isValid : ev_mu := (prog_6_method_16_code, 5, (some .boolean), y_P_isValid, { frames := 3, cells := 0, slots := 0, locals := 72 }, 0, 0)
abbrev mu_H_appendIfValid : ev_mu := (prog_1_method_16_code, 5, (some .boolean), y_H_appendIfValid, { frames := 4, cells := 0, slots := 0, locals := 96 }, 0, 0)
abbrev mu_D_below : ev_mu := (prog_2_method_3_code, 3, (some .int), y_D_below, { frames := 0, cells := 0, slots := 0, locals := 0 }, 0, 0)
abbrev mu_P_known : ev_mu := (prog_6_method_7_code, 2, (some .int), y_P_known, { frames := 0, cells := 0, slots := 0, locals := 0 }, 0, 0)
abbrev mu_P_knownAt : ev_mu := (prog_6_method_8_code, 3, (some .int), y_P_knownAt, { frames := 1, cells := 0, slots := 0, locals := 21 }, 0, 0)
abbrev mu_H_drawCommand : ev_mu := (prog_1_method_18_code, 7, (some .boolean), y_H_drawCommand, { frames := 5, cells := 0, slots := 0, locals := 120 }, 0, 0)
abbrev mu_H_drawBranch : ev_mu := (prog_1_method_17_code, 6, none, y_H_drawBranch, { frames := 6, cells := 0, slots := 0, locals := 146 }, 0, 0)
abbrev mu_P_lower : ev_mu := (prog_6_method_15_code, 4, (some .boolean), y_P_lower, { frames := 1, cells := 0, slots := 0, locals := 20 }, 0, 0)
abbrev mu_P_hasRoom : ev_mu := (prog_6_method_6_code, 2, (some .boolean), y_P_hasRoom, { frames := 0, cells := 0, slots := 0, locals := 0 }, 0, 0)
abbrev mu_P_promote : ev_mu := (prog_6_method_14_code, 10, (some .boolean), y_P_promote, { frames := 2, cells := 0, slots := 0, locals := 47 }, 0, 0)
abbrev mu_P_isNeeded : ev_mu := (prog_6_method_18_code, 4, (some .boolean), y_P_isNeeded, { frames := 1, cells := 0, slots := 0, locals := 20 }, 0, 0)
abbrev mu_P_branchOf : ev_mu := (prog_6_method_5_code, 2, (some .int), y_P_branchOf, { frames := 1, cells := 0, slots := 0, locals := 21 }, 0, 0)
abbrev mu_P_remove : ev_mu := (prog_6_method_13_code, 4, (some .boolean), y_P_remove, { frames := 2, cells := 0, slots := 0, locals := 44 }, 0, 0)
abbrev mu_H_prepareCandidate : ev_mu := (prog_1_method_19_code, 3, (some .boolean), y_H_prepareCandidate, { frames := 3, cells := 0, slots := 0, locals := 82 }, 0, 0)
abbrev mu_P_mayTake : ev_mu := (prog_6_method_9_code, 4, (some .boolean), y_P_mayTake, { frames := 2, cells := 0, slots := 0, locals := 42 }, 0, 0)
abbrev mu_O_answer : ev_mu := (prog_5_method_7_code, 4, (some .int), y_O_answer, { frames := 1, cells := 0, slots := 0, locals := 21 }, 0, 0)
abbrev mu_R_thrown : ev_mu := (prog_9_method_2_code, 1, (some .int), y_R_thrown, { frames := 0, cells := 0, slots := 0, locals := 0 }, 0, 0)
abbrev mu_R_fail : ev_mu := (prog_9_method_3_code, 2, (some .int), y_R_fail, { frames := 0, cells := 0, slots := 0, locals := 0 }, 0, 0)
abbrev mu_R_within : ev_mu := (prog_9_method_4_code, 3, (some .boolean), y_R_within, { frames := 0, cells := 0, slots := 0, locals := 0 }, 0, 0)
abbrev mu_R_many : ev_mu := (prog_9_method_5_code, 1, (some .int), y_R_many, { frames := 0, cells := 0, slots := 0, locals := 0 }, 0, 0)
abbrev mu_R_branch : ev_mu := (prog_9_method_6_code, 2, (some .int), y_R_branch, { frames := 0, cells := 0, slots := 0, locals := 0 }, 0, 0)
abbrev mu_R_first : ev_mu := (prog_9_method_7_code, 2, (some .int), y_R_first, { frames := 0, cells := 0, slots := 0, locals := 0 }, 0, 0)
abbrev mu_R_mayStand : ev_mu := (prog_9_method_8_code, 4, (some .boolean), y_R_mayStand, { frames := 1, cells := 0, slots := 0, locals := 21 }, 0, 0)
abbrev mu_R_placed : ev_mu := (prog_9_method_9_code, 6, (some .int), y_R_placed, { frames := 1, cells := 0, slots := 0, locals := 21 }, 0, 0)
abbrev mu_R_isOrder : ev_mu := (prog_9_method_10_code, 4, (some .boolean), y_R_isOrder, { frames := 0, cells := 0, slots := 0, locals := 0 }, 0, 0)
abbrev mu_R_finds : ev_mu := (prog_9_method_11_code, 4, (some .boolean), y_R_finds, { frames := 0, cells := 0, slots := 0, locals := 0 }, 0, 0)
abbrev mu_R_fits : ev_mu := (prog_9_method_12_code, 4, (some .boolean), y_R_fits, { frames := 2, cells := 0, slots := 0, locals := 46 }, 0, 0)
abbrev mu_R_valid : ev_mu := (prog_9_method_13_code, 4, (some .boolean), y_R_valid, { frames := 3, cells := 0, slots := 0, locals := 69 }, 0, 0)
abbrev mu_R_keep : ev_mu := (prog_9_method_14_code, 2, none, y_R_keep, { frames := 0, cells := 0, slots := 0, locals := 0 }, 0, 0)
abbrev mu_R_putBack : ev_mu := (prog_9_method_15_code, 2, none, y_R_putBack, { frames := 0, cells := 0, slots := 0, locals := 0 }, 0, 0)
abbrev mu_R_copy : ev_mu := (prog_9_method_16_code, 3, none, y_R_copy, { frames := 0, cells := 0, slots := 0, locals := 0 }, 0, 0)
abbrev mu_R_insert : ev_mu := (prog_9_method_17_code, 7, (some .int), y_R_insert, { frames := 1, cells := 0, slots := 0, locals := 22 }, 0, 0)
abbrev mu_R_leaveOut : ev_mu := (prog_9_method_18_code, 4, (some .boolean), y_R_leaveOut, { frames := 1, cells := 0, slots := 0, locals := 22 }, 0, 0)
abbrev mu_R_raise : ev_mu := (prog_9_method_19_code, 9, none, y_R_raise, { frames := 1, cells := 0, slots := 0, locals := 22 }, 0, 0)
abbrev mu_R_add : ev_mu := (prog_9_method_20_code, 6, (some .int), y_R_add, { frames := 4, cells := 0, slots := 0, locals := 92 }, 0, 0)
abbrev mu_R_clear : ev_mu := (prog_9_method_21_code, 3, (some .int), y_R_clear, { frames := 1, cells := 0, slots := 0, locals := 20 }, 0, 0)
abbrev mu_R_drawn : ev_mu := (prog_9_method_22_code, 2, (some .int), y_R_drawn, { frames := 0, cells := 0, slots := 0, locals := 0 }, 0, 0)
abbrev mu_R_before : ev_mu := (prog_9_method_24_code, 6, (some .int), y_R_before, { frames := 2, cells := 0, slots := 0, locals := 44 }, 0, 0)
abbrev mu_R_tried : ev_mu := (prog_9_method_23_code, 12, none, y_R_tried, { frames := 4, cells := 0, slots := 0, locals := 92 }, 0, 0)
abbrev mu_R_make : ev_mu := (prog_9_method_25_code, 7, (some .int), y_R_make, { frames := 5, cells := 0, slots := 0, locals := 123 }, 0, 0)
abbrev mu_R_flaws : ev_mu := (prog_9_method_26_code, 3, (some .int), y_R_flaws, { frames := 1, cells := 0, slots := 0, locals := 22 }, 0, 0)
abbrev mu_R_twoParts : ev_mu := (prog_9_method_27_code, 2, (some .boolean), y_R_twoParts, { frames := 0, cells := 0, slots := 0, locals := 0 }, 0, 0)
abbrev mu_R_isLate : ev_mu := (prog_9_method_28_code, 2, (some .boolean), y_R_isLate, { frames := 0, cells := 0, slots := 0, locals := 0 }, 0, 0)
abbrev mu_R_source : ev_mu := (prog_9_method_29_code, 2, (some .int), y_R_source, { frames := 0, cells := 0, slots := 0, locals := 0 }, 0, 0)
abbrev mu_R_does : ev_mu := (prog_9_method_30_code, 5, none, y_R_does, { frames := 1, cells := 0, slots := 0, locals := 21 }, 0, 0)
abbrev mu_R_calls : ev_mu := (prog_9_method_31_code, 2, none, y_R_calls, { frames := 0, cells := 0, slots := 0, locals := 0 }, 0, 0)
abbrev mu_R_events : ev_mu := (prog_9_method_32_code, 2, (some .int), y_R_events, { frames := 1, cells := 0, slots := 0, locals := 21 }, 0, 0)
abbrev mu_R_happens : ev_mu := (prog_9_method_33_code, 5, none, y_R_happens, { frames := 2, cells := 0, slots := 0, locals := 45 }, 0, 0)
abbrev mu_R_hasLeft : ev_mu := (prog_9_method_34_code, 2, (some .boolean), y_R_hasLeft, { frames := 1, cells := 0, slots := 0, locals := 21 }, 0, 0)
abbrev mu_R_go : ev_mu := (prog_9_method_35_code, 4, none, y_R_go, { frames := 3, cells := 0, slots := 0, locals := 69 }, 0, 0)
abbrev mu_R_right : ev_mu := (prog_9_method_36_code, 5, (some .int), y_R_right, { frames := 0, cells := 0, slots := 0, locals := 0 }, 0, 0)
abbrev mu_R_explains : ev_mu := (prog_9_method_37_code, 7, (some .boolean), y_R_explains, { frames := 2, cells := 0, slots := 0, locals := 46 }, 0, 0)
abbrev mu_R_judged : ev_mu := (prog_9_method_38_code, 4, (some .boolean), y_R_judged, { frames := 4, cells := 0, slots := 0, locals := 92 }, 0, 0)
abbrev mu_R_run : ev_mu := (prog_9_method_39_code, 2, (some .boolean), y_R_run, { frames := 5, cells := 0, slots := 0, locals := 115 }, 0, 0)
abbrev mu_R_failed : ev_mu := (prog_9_method_40_code, 6, (some .int), y_R_failed, { frames := 5, cells := 0, slots := 0, locals := 115 }, 0, 0)
abbrev mu_R_fails : ev_mu := (prog_9_method_41_code, 4, (some .int), y_R_fails, { frames := 6, cells := 0, slots := 0, locals := 140 }, 0, 0)
abbrev mu_R_takes : ev_mu := (prog_9_method_42_code, 5, (some .boolean), y_R_takes, { frames := 6, cells := 0, slots := 0, locals := 140 }, 0, 0)
abbrev mu_R_smaller : ev_mu := (prog_9_method_43_code, 7, (some .boolean), y_R_smaller, { frames := 7, cells := 0, slots := 0, locals := 164 }, 0, 0)
abbrev mu_R_shrink : ev_mu := (prog_9_method_44_code, 5, (some .int), y_R_shrink, { frames := 8, cells := 0, slots := 0, locals := 190 }, 0, 0)
abbrev mu_R_command : ev_mu := (prog_9_method_45_code, 3, (some .int), y_R_command, { frames := 1, cells := 0, slots := 0, locals := 22 }, 0, 0)
abbrev mu_R_event : ev_mu := (prog_9_method_46_code, 3, (some .int), y_R_event, { frames := 1, cells := 0, slots := 0, locals := 22 }, 0, 0)
abbrev mu_R_order : ev_mu := (prog_9_method_47_code, 2, (some .int), y_R_order, { frames := 2, cells := 0, slots := 0, locals := 46 }, 0, 0)
abbrev mu_R_cell : ev_mu := (prog_9_method_48_code, 2, (some .int), y_R_cell, { frames := 1, cells := 0, slots := 0, locals := 22 }, 0, 0)
abbrev mu_R_count : ev_mu := (prog_9_method_49_code, 2, (some .int), y_R_count, { frames := 1, cells := 0, slots := 0, locals := 22 }, 0, 0)
abbrev mu_R_tally : ev_mu := (prog_9_method_50_code, 2, (some .int), y_R_tally, { frames := 1, cells := 0, slots := 0, locals := 22 }, 0, 0)
abbrev mu_M_numberOf : ev_mu := (prog_4_method_4_code, 2, (some .int), y_M_numberOf, { frames := 0, cells := 0, slots := 0, locals := 0 }, 0, 0)
abbrev mu_M_isSplit : ev_mu := (prog_4_method_5_code, 2, (some .boolean), y_M_isSplit, { frames := 0, cells := 0, slots := 0, locals := 0 }, 0, 0)
abbrev mu_M_isLate : ev_mu := (prog_4_method_6_code, 2, (some .boolean), y_M_isLate, { frames := 0, cells := 0, slots := 0, locals := 0 }, 0, 0)
abbrev mu_M_act : ev_mu := (prog_4_method_7_code, 4, none, y_M_act, { frames := 2, cells := 0, slots := 0, locals := 47 }, 0, 0)
abbrev mu_M_actByNote : ev_mu := (prog_4_method_8_code, 6, none, y_M_actByNote, { frames := 2, cells := 0, slots := 0, locals := 47 }, 0, 0)
abbrev mu_M_step : ev_mu := (prog_4_method_3_code, 7, none, y_M_step, { frames := 3, cells := 0, slots := 0, locals := 72 }, 0, 0)
abbrev mu_M_perform : ev_mu := (prog_4_method_2_code, 11, none, y_M_perform, { frames := 4, cells := 0, slots := 0, locals := 98 }, 0, 0)
abbrev mu_J_answersSo : ev_mu := (prog_3_method_4_code, 5, (some .boolean), y_J_answersSo, { frames := 2, cells := 0, slots := 0, locals := 44 }, 0, 0)
abbrev mu_J_after : ev_mu := (prog_3_method_5_code, 4, (some .int), y_J_after, { frames := 2, cells := 0, slots := 0, locals := 47 }, 0, 0)
abbrev mu_J_search (d : Nat) : ev_mu := (prog_3_method_3_code, 12, (some .boolean), y_J_search, { frames := d + 3, cells := 0, slots := 0, locals := d * 31 + 70 }, 0, 0)
abbrev mu_J_explains : ev_mu := (prog_3_method_2_code, 6, (some .boolean), y_J_explains, { frames := 14, cells := 0, slots := 0, locals := 411 }, 0, 0)
abbrev mu_T_test : ev_mu := (prog_7_method_2_code, 5, (some .boolean), y_T_test, { frames := 15, cells := 0, slots := 0, locals := 436 }, 0, 0)
abbrev mu_D_restart : ev_mu := (prog_2_method_2_code, 3, none, y_D_restart, { frames := 0, cells := 0, slots := 0, locals := 0 }, 0, 0)
abbrev mu_T_firstFailure : ev_mu := (prog_7_method_3_code, 6, (some .int), y_T_firstFailure, { frames := 16, cells := 0, slots := 0, locals := 460 }, 0, 0)
abbrev mu_H_init : ev_mu := (prog_1_method_1_code, 1, none, y_H_init, { frames := 3, cells := 24, slots := 199, locals := 52 }, 24, 199)
abbrev mu_P_init : ev_mu := (prog_6_method_1_code, 1, none, y_P_init, { frames := 1, cells := 4, slots := 45, locals := 12 }, 4, 45)
abbrev mu_T_init : ev_mu := (prog_7_method_1_code, 1, none, y_T_init, { frames := 2, cells := 12, slots := 91, locals := 32 }, 12, 91)
abbrev mu_M_init : ev_mu := (prog_4_method_1_code, 1, none, y_M_init, { frames := 1, cells := 7, slots := 65, locals := 12 }, 7, 65)
abbrev mu_J_init : ev_mu := (prog_3_method_1_code, 1, none, y_J_init, { frames := 1, cells := 1, slots := 8, locals := 12 }, 1, 8)
abbrev mu_D_init : ev_mu := (prog_2_method_1_code, 1, none, y_D_init, { frames := 1, cells := 0, slots := 0, locals := 12 }, 0, 0)
abbrev mu_R_init : ev_mu := (prog_9_method_1_code, 1, none, y_R_init, { frames := 1, cells := 18, slots := 185, locals := 12 }, 18, 185)
theorem hfs_H : ∀ j, j < 6 → defaultValue (tyX_H j) = vp_V [.null, .null, .null, .null, .int 0, .int 0] j := by decide +kernel
theorem hfs_P : ∀ j, j < 4 → defaultValue (tyX_P j) = vp_V [.null, .null, .null, .null] j := by decide +kernel
theorem hfs_T : ∀ j, j < 9 → defaultValue (tyX_T j) = vp_V [.null, .null, .null, .int 0, .int 0, .int 0, .int 0, .int 0, .null] j := by decide +kernel
theorem hfs_M : ∀ j, j < 9 → defaultValue (tyX_M j) = vp_V [.null, .null, .null, .null, .int 0, .null, .null, .null, .int 0] j := by decide +kernel
theorem hfs_J : ∀ j, j < 1 → defaultValue (tyX_J j) = vp_V [.null] j := by decide +kernel
theorem hfs_D : ∀ j, j < 1 → defaultValue (tyX_D j) = vp_V [.long 0] j := by decide +kernel
theorem hfs_R : ∀ j, j < 28 → defaultValue (tyX_R j) = vp_V [.int 0, .null, .null, .null, .null, .null, .null, .int 0, .long 0, .null, .null, .null, .null, .int 0, .int 0, .null, .null, .null, .null, .null, .null, .null, .int 0, .int 0, .int 0, .int 0, .int 0, .null] j := by decide +kernel
