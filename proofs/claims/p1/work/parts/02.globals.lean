/-! the classes of the claim, their fields in the order of the words; the kinds of arrays (by wip/whole/gen/globals.py) -/
def xR0 : String := "LogicalTimes$Code"
def xT0 : u_T := fun k => match k with
  | 0 => ("LogicalTimes$Code", "acts", "[I", true)
  | 1 => ("LogicalTimes$Code", "operands", "[I", true)
  | 2 => ("LogicalTimes$Code", "size", "I", false)
  | 3 => ("LogicalTimes$Code", "stack", "[I", true)
  | 4 => ("LogicalTimes$Code", "height", "I", false)
  | 5 => ("LogicalTimes$Code", "rounds", "[I", true)
  | 6 => ("LogicalTimes$Code", "depth", "I", false)
  | _ => ("LogicalTimes$Code", "locals", "[I", true)
def xF0 : Nat → FieldType := fun k => match k with
  | 0 => .array .int
  | 1 => .array .int
  | 2 => .int
  | 3 => .array .int
  | 4 => .int
  | 5 => .array .int
  | 6 => .int
  | _ => .array .int
def xR1 : String := "LogicalTimes$Exit"
def xT1 : u_T := fun k => match k with
  | 0 => ("LogicalTimes$Exit", "every", "I", false)
  | 1 => ("LogicalTimes$Exit", "from", "I", false)
  | 2 => ("LogicalTimes$Exit", "to", "I", false)
  | 3 => ("LogicalTimes$Exit", "token", "I", false)
  | _ => ("LogicalTimes$Exit", "target", "I", false)
def xF1 : Nat → FieldType := fun k => match k with
  | 0 => .int
  | 1 => .int
  | 2 => .int
  | 3 => .int
  | _ => .int
def xR2 : String := "LogicalTimes$Mode"
def xT2 : u_T := fun k => match k with
  | 0 => ("LogicalTimes$Mode", "number", "I", true)
  | 1 => ("LogicalTimes$Mode", "period", "I", false)
  | 2 => ("LogicalTimes$Mode", "tasks", "[LLogicalTimes$Task;", true)
  | 3 => ("LogicalTimes$Mode", "size", "I", false)
  | 4 => ("LogicalTimes$Mode", "assigned", "I", false)
  | 5 => ("LogicalTimes$Mode", "exits", "[LLogicalTimes$Exit;", true)
  | 6 => ("LogicalTimes$Mode", "exitsRead", "I", false)
  | 7 => ("LogicalTimes$Mode", "hasSlot", "[Z", true)
  | 8 => ("LogicalTimes$Mode", "senderAt", "[LLogicalTimes$Task;", true)
  | 9 => ("LogicalTimes$Mode", "portAt", "[I", true)
  | 10 => ("LogicalTimes$Mode", "messages", "I", false)
  | 11 => ("LogicalTimes$Mode", "slotOf", "[I", true)
  | _ => ("LogicalTimes$Mode", "verdict", "I", false)
def xF2 : Nat → FieldType := fun k => match k with
  | 0 => .int
  | 1 => .int
  | 2 => .array (.object "LogicalTimes$Task")
  | 3 => .int
  | 4 => .int
  | 5 => .array (.object "LogicalTimes$Exit")
  | 6 => .int
  | 7 => .array .boolean
  | 8 => .array (.object "LogicalTimes$Task")
  | 9 => .array .int
  | 10 => .int
  | 11 => .array .int
  | _ => .int
def xR3 : String := "LogicalTimes$Names"
def xT3 : u_T := fun k => match k with
  | 0 => ("LogicalTimes$Names", "names", "[J", true)
  | 1 => ("LogicalTimes$Names", "acts", "[I", true)
  | 2 => ("LogicalTimes$Names", "numbers", "[I", true)
  | _ => ("LogicalTimes$Names", "size", "I", false)
def xF3 : Nat → FieldType := fun k => match k with
  | 0 => .array .long
  | 1 => .array .int
  | 2 => .array .int
  | _ => .int
def xR4 : String := "LogicalTimes$Program"
def xT4 : u_T := fun k => match k with
  | 0 => ("LogicalTimes$Program", "code", "LLogicalTimes$Code;", true)
  | 1 => ("LogicalTimes$Program", "firstValues", "[I", true)
  | 2 => ("LogicalTimes$Program", "modes", "[LLogicalTimes$Mode;", true)
  | 3 => ("LogicalTimes$Program", "tasks", "[LLogicalTimes$Task;", true)
  | 4 => ("LogicalTimes$Program", "ports", "I", false)
  | 5 => ("LogicalTimes$Program", "sensors", "I", false)
  | 6 => ("LogicalTimes$Program", "modesRead", "I", false)
  | _ => ("LogicalTimes$Program", "tasksRead", "I", false)
def xF4 : Nat → FieldType := fun k => match k with
  | 0 => .object "LogicalTimes$Code"
  | 1 => .array .int
  | 2 => .array (.object "LogicalTimes$Mode")
  | 3 => .array (.object "LogicalTimes$Task")
  | 4 => .int
  | 5 => .int
  | 6 => .int
  | _ => .int
def xR5 : String := "LogicalTimes$Reader"
def xT5 : u_T := fun k => match k with
  | 0 => ("LogicalTimes$Reader", "tokens", "LLogicalTimes$Tokens;", true)
  | 1 => ("LogicalTimes$Reader", "program", "LLogicalTimes$Program;", true)
  | 2 => ("LogicalTimes$Reader", "code", "LLogicalTimes$Code;", true)
  | 3 => ("LogicalTimes$Reader", "known", "LLogicalTimes$Names;", true)
  | 4 => ("LogicalTimes$Reader", "modeNames", "LLogicalTimes$Names;", true)
  | 5 => ("LogicalTimes$Reader", "taskNames", "LLogicalTimes$Names;", true)
  | 6 => ("LogicalTimes$Reader", "at", "I", false)
  | 7 => ("LogicalTimes$Reader", "statements", "I", false)
  | 8 => ("LogicalTimes$Reader", "tokensInE", "I", false)
  | 9 => ("LogicalTimes$Reader", "portsUsed", "I", false)
  | 10 => ("LogicalTimes$Reader", "mode", "LLogicalTimes$Mode;", false)
  | _ => ("LogicalTimes$Reader", "task", "LLogicalTimes$Task;", false)
def xF5 : Nat → FieldType := fun k => match k with
  | 0 => .object "LogicalTimes$Tokens"
  | 1 => .object "LogicalTimes$Program"
  | 2 => .object "LogicalTimes$Code"
  | 3 => .object "LogicalTimes$Names"
  | 4 => .object "LogicalTimes$Names"
  | 5 => .object "LogicalTimes$Names"
  | 6 => .int
  | 7 => .int
  | 8 => .int
  | 9 => .int
  | 10 => .object "LogicalTimes$Mode"
  | _ => .object "LogicalTimes$Task"
def xR6 : String := "LogicalTimes$Run"
def xT6 : u_T := fun k => match k with
  | 0 => ("LogicalTimes$Run", "left", "I", false)
  | 1 => ("LogicalTimes$Run", "end", "I", false)
  | 2 => ("LogicalTimes$Run", "told", "I", false)
  | 3 => ("LogicalTimes$Run", "slotsTaken", "I", false)
  | 4 => ("LogicalTimes$Run", "sent", "I", false)
  | 5 => ("LogicalTimes$Run", "saidGiven", "[I", true)
  | _ => ("LogicalTimes$Run", "seenGiven", "[I", true)
def xF6 : Nat → FieldType := fun k => match k with
  | 0 => .int
  | 1 => .int
  | 2 => .int
  | 3 => .int
  | 4 => .int
  | 5 => .array .int
  | _ => .array .int
def xR7 : String := "LogicalTimes$Runner"
def xT7 : u_T := fun k => match k with
  | 0 => ("LogicalTimes$Runner", "program", "LLogicalTimes$Program;", true)
  | 1 => ("LogicalTimes$Runner", "runs", "Z", false)
  | 2 => ("LogicalTimes$Runner", "mode", "I", false)
  | 3 => ("LogicalTimes$Runner", "tick", "I", false)
  | 4 => ("LogicalTimes$Runner", "switches", "I", false)
  | 5 => ("LogicalTimes$Runner", "faults", "I", false)
  | 6 => ("LogicalTimes$Runner", "latestFault", "I", false)
  | 7 => ("LogicalTimes$Runner", "messagesSent", "I", false)
  | 8 => ("LogicalTimes$Runner", "runsDone", "I", false)
  | 9 => ("LogicalTimes$Runner", "said", "[I", true)
  | 10 => ("LogicalTimes$Runner", "seen", "[[I", true)
  | 11 => ("LogicalTimes$Runner", "sensed", "[I", true)
  | _ => ("LogicalTimes$Runner", "ran", "[I", true)
def xF7 : Nat → FieldType := fun k => match k with
  | 0 => .object "LogicalTimes$Program"
  | 1 => .boolean
  | 2 => .int
  | 3 => .int
  | 4 => .int
  | 5 => .int
  | 6 => .int
  | 7 => .int
  | 8 => .int
  | 9 => .array .int
  | 10 => .array (.array .int)
  | 11 => .array .int
  | _ => .array .int
def xR8 : String := "LogicalTimes$Task"
def xT8 : u_T := fun k => match k with
  | 0 => ("LogicalTimes$Task", "number", "I", true)
  | 1 => ("LogicalTimes$Task", "mode", "I", false)
  | 2 => ("LogicalTimes$Task", "node", "I", false)
  | 3 => ("LogicalTimes$Task", "span", "I", false)
  | 4 => ("LogicalTimes$Task", "worst", "I", false)
  | 5 => ("LogicalTimes$Task", "locals", "I", false)
  | 6 => ("LogicalTimes$Task", "assigned", "I", false)
  | 7 => ("LogicalTimes$Task", "used", "I", false)
  | 8 => ("LogicalTimes$Task", "from", "I", false)
  | 9 => ("LogicalTimes$Task", "to", "I", false)
  | 10 => ("LogicalTimes$Task", "sentPorts", "[I", true)
  | 11 => ("LogicalTimes$Task", "portsSent", "I", false)
  | 12 => ("LogicalTimes$Task", "firstMessage", "I", false)
  | 13 => ("LogicalTimes$Task", "slack", "I", false)
  | _ => ("LogicalTimes$Task", "run", "LLogicalTimes$Run;", true)
def xF8 : Nat → FieldType := fun k => match k with
  | 0 => .int
  | 1 => .int
  | 2 => .int
  | 3 => .int
  | 4 => .int
  | 5 => .int
  | 6 => .int
  | 7 => .int
  | 8 => .int
  | 9 => .int
  | 10 => .array .int
  | 11 => .int
  | 12 => .int
  | 13 => .int
  | _ => .object "LogicalTimes$Run"
def xR9 : String := "LogicalTimes$Tokens"
def xT9 : u_T := fun k => match k with
  | 0 => ("LogicalTimes$Tokens", "kinds", "[LLogicalTimes$Kind;", true)
  | 1 => ("LogicalTimes$Tokens", "places", "[I", true)
  | 2 => ("LogicalTimes$Tokens", "values", "[J", true)
  | 3 => ("LogicalTimes$Tokens", "size", "I", false)
  | _ => ("LogicalTimes$Tokens", "numberEnd", "I", false)
def xF9 : Nat → FieldType := fun k => match k with
  | 0 => .array (.object "LogicalTimes$Kind")
  | 1 => .array .int
  | 2 => .array .long
  | 3 => .int
  | _ => .int
def xR10 : String := "LogicalTimes"
def xT10 : u_T := fun k => match k with
  | 0 => ("LogicalTimes", "tape", "[B", true)
  | 1 => ("LogicalTimes", "text", "[B", true)
  | 2 => ("LogicalTimes", "tapeSize", "I", false)
  | 3 => ("LogicalTimes", "textSize", "I", false)
  | 4 => ("LogicalTimes", "tokens", "LLogicalTimes$Tokens;", true)
  | 5 => ("LogicalTimes", "program", "LLogicalTimes$Program;", true)
  | 6 => ("LogicalTimes", "reader", "LLogicalTimes$Reader;", true)
  | _ => ("LogicalTimes", "runner", "LLogicalTimes$Runner;", true)
def xF10 : Nat → FieldType := fun k => match k with
  | 0 => .array .byte
  | 1 => .array .byte
  | 2 => .int
  | 3 => .int
  | 4 => .object "LogicalTimes$Tokens"
  | 5 => .object "LogicalTimes$Program"
  | 6 => .object "LogicalTimes$Reader"
  | _ => .object "LogicalTimes$Runner"
def xR11 : String := "LogicalTimesModel"
def xT11 : u_T := fun k => match k with
  | 0 => ("LogicalTimesModel", "code", "I", false)
  | 1 => ("LogicalTimesModel", "fed", "I", false)
  | 2 => ("LogicalTimesModel", "tape", "[I", true)
  | 3 => ("LogicalTimesModel", "size", "I", false)
  | 4 => ("LogicalTimesModel", "text", "[I", true)
  | 5 => ("LogicalTimesModel", "wordNames", "[J", true)
  | 6 => ("LogicalTimesModel", "tokens", "I", false)
  | 7 => ("LogicalTimesModel", "kinds", "[I", true)
  | 8 => ("LogicalTimesModel", "places", "[I", true)
  | 9 => ("LogicalTimesModel", "worths", "[J", true)
  | 10 => ("LogicalTimesModel", "at", "I", false)
  | 11 => ("LogicalTimesModel", "bad", "Z", false)
  | 12 => ("LogicalTimesModel", "ports", "I", false)
  | 13 => ("LogicalTimesModel", "portName", "[J", true)
  | 14 => ("LogicalTimesModel", "first", "[I", true)
  | 15 => ("LogicalTimesModel", "sensors", "I", false)
  | 16 => ("LogicalTimesModel", "sensorName", "[J", true)
  | 17 => ("LogicalTimesModel", "modes", "I", false)
  | 18 => ("LogicalTimesModel", "modeName", "[J", true)
  | 19 => ("LogicalTimesModel", "period", "[I", true)
  | 20 => ("LogicalTimesModel", "checked", "[I", true)
  | 21 => ("LogicalTimesModel", "modeMessages", "[I", true)
  | 22 => ("LogicalTimesModel", "tasks", "I", false)
  | 23 => ("LogicalTimesModel", "taskName", "[J", true)
  | 24 => ("LogicalTimesModel", "taskMode", "[I", true)
  | 25 => ("LogicalTimesModel", "taskNode", "[I", true)
  | 26 => ("LogicalTimesModel", "taskTimes", "[I", true)
  | 27 => ("LogicalTimesModel", "taskSpan", "[I", true)
  | 28 => ("LogicalTimesModel", "taskWorst", "[I", true)
  | 29 => ("LogicalTimesModel", "taskLocals", "[I", true)
  | 30 => ("LogicalTimesModel", "taskCode", "[I", true)
  | 31 => ("LogicalTimesModel", "spare", "[I", true)
  | 32 => ("LogicalTimesModel", "touches", "[Z", true)
  | 33 => ("LogicalTimesModel", "assigns", "[Z", true)
  | 34 => ("LogicalTimesModel", "sentPorts", "[I", true)
  | 35 => ("LogicalTimesModel", "messagesOf", "[I", true)
  | 36 => ("LogicalTimesModel", "done", "[I", true)
  | 37 => ("LogicalTimesModel", "switches", "I", false)
  | 38 => ("LogicalTimesModel", "switchMode", "[I", true)
  | 39 => ("LogicalTimesModel", "switchEvery", "[I", true)
  | 40 => ("LogicalTimesModel", "switchCode", "[I", true)
  | 41 => ("LogicalTimesModel", "switchTo", "[J", true)
  | 42 => ("LogicalTimesModel", "switchPlace", "[I", true)
  | 43 => ("LogicalTimesModel", "slots", "I", false)
  | 44 => ("LogicalTimesModel", "slotMode", "[I", true)
  | 45 => ("LogicalTimesModel", "slotTick", "[I", true)
  | 46 => ("LogicalTimesModel", "slotMessage", "[I", true)
  | 47 => ("LogicalTimesModel", "used", "I", false)
  | 48 => ("LogicalTimesModel", "ops", "[I", true)
  | 49 => ("LogicalTimesModel", "args", "[I", true)
  | 50 => ("LogicalTimesModel", "localName", "[J", true)
  | 51 => ("LogicalTimesModel", "localKnown", "[Z", true)
  | 52 => ("LogicalTimesModel", "statements", "I", false)
  | 53 => ("LogicalTimesModel", "open", "I", false)
  | 54 => ("LogicalTimesModel", "blockKind", "[I", true)
  | 55 => ("LogicalTimesModel", "blockJump", "[I", true)
  | 56 => ("LogicalTimesModel", "blockCost", "[I", true)
  | 57 => ("LogicalTimesModel", "blockOther", "[I", true)
  | 58 => ("LogicalTimesModel", "blockRounds", "[I", true)
  | 59 => ("LogicalTimesModel", "signs", "I", false)
  | 60 => ("LogicalTimesModel", "depth", "I", false)
  | 61 => ("LogicalTimesModel", "waiting", "I", false)
  | 62 => ("LogicalTimesModel", "waits", "[I", true)
  | 63 => ("LogicalTimesModel", "compared", "[Z", true)
  | 64 => ("LogicalTimesModel", "levels", "I", false)
  | 65 => ("LogicalTimesModel", "ground", "[I", true)
  | 66 => ("LogicalTimesModel", "local", "[I", true)
  | 67 => ("LogicalTimesModel", "given", "[I", true)
  | 68 => ("LogicalTimesModel", "pile", "[I", true)
  | 69 => ("LogicalTimesModel", "rounds", "[I", true)
  | 70 => ("LogicalTimesModel", "runs", "Z", false)
  | 71 => ("LogicalTimesModel", "mode", "I", false)
  | 72 => ("LogicalTimesModel", "now", "I", false)
  | 73 => ("LogicalTimesModel", "switched", "I", false)
  | 74 => ("LogicalTimesModel", "faults", "I", false)
  | 75 => ("LogicalTimesModel", "faulty", "I", false)
  | 76 => ("LogicalTimesModel", "sends", "I", false)
  | 77 => ("LogicalTimesModel", "finished", "I", false)
  | 78 => ("LogicalTimesModel", "meant", "[I", true)
  | 79 => ("LogicalTimesModel", "seen", "[I", true)
  | 80 => ("LogicalTimesModel", "sensed", "[I", true)
  | 81 => ("LogicalTimesModel", "busy", "[I", true)
  | 82 => ("LogicalTimesModel", "left", "[I", true)
  | 83 => ("LogicalTimesModel", "told", "[I", true)
  | 84 => ("LogicalTimesModel", "seenGiven", "[I", true)
  | 85 => ("LogicalTimesModel", "meantGiven", "[I", true)
  | _ => ("LogicalTimesModel", "sent", "[Z", true)
def xF11 : Nat → FieldType := fun k => match k with
  | 0 => .int
  | 1 => .int
  | 2 => .array .int
  | 3 => .int
  | 4 => .array .int
  | 5 => .array .long
  | 6 => .int
  | 7 => .array .int
  | 8 => .array .int
  | 9 => .array .long
  | 10 => .int
  | 11 => .boolean
  | 12 => .int
  | 13 => .array .long
  | 14 => .array .int
  | 15 => .int
  | 16 => .array .long
  | 17 => .int
  | 18 => .array .long
  | 19 => .array .int
  | 20 => .array .int
  | 21 => .array .int
  | 22 => .int
  | 23 => .array .long
  | 24 => .array .int
  | 25 => .array .int
  | 26 => .array .int
  | 27 => .array .int
  | 28 => .array .int
  | 29 => .array .int
  | 30 => .array .int
  | 31 => .array .int
  | 32 => .array .boolean
  | 33 => .array .boolean
  | 34 => .array .int
  | 35 => .array .int
  | 36 => .array .int
  | 37 => .int
  | 38 => .array .int
  | 39 => .array .int
  | 40 => .array .int
  | 41 => .array .long
  | 42 => .array .int
  | 43 => .int
  | 44 => .array .int
  | 45 => .array .int
  | 46 => .array .int
  | 47 => .int
  | 48 => .array .int
  | 49 => .array .int
  | 50 => .array .long
  | 51 => .array .boolean
  | 52 => .int
  | 53 => .int
  | 54 => .array .int
  | 55 => .array .int
  | 56 => .array .int
  | 57 => .array .int
  | 58 => .array .int
  | 59 => .int
  | 60 => .int
  | 61 => .int
  | 62 => .array .int
  | 63 => .array .boolean
  | 64 => .int
  | 65 => .array .int
  | 66 => .array .int
  | 67 => .array .int
  | 68 => .array .int
  | 69 => .array .int
  | 70 => .boolean
  | 71 => .int
  | 72 => .int
  | 73 => .int
  | 74 => .int
  | 75 => .int
  | 76 => .int
  | 77 => .int
  | 78 => .array .int
  | 79 => .array .int
  | 80 => .array .int
  | 81 => .array .int
  | 82 => .array .int
  | 83 => .array .int
  | 84 => .array .int
  | 85 => .array .int
  | _ => .array .boolean
def xR12 : String := "java/lang/IllegalArgumentException"
def xR13 : String := "java/lang/IllegalStateException"
def xR14 : String := "java/util/NoSuchElementException"
def xTx : u_T := fun _ => ("", "", "", false)
def xg_cl : List vw_C := [(xR0, xT0, 8), (xR1, xT1, 5), (xR2, xT2, 13), (xR3, xT3, 4), (xR4, xT4, 8), (xR5, xT5, 12), (xR6, xT6, 7), (xR7, xT7, 13), (xR8, xT8, 15), (xR9, xT9, 5), (xR10, xT10, 8), (xR11, xT11, 87), (xR12, xTx, 0), (xR13, xTx, 0), (xR14, xTx, 0)]
def xg_ft (ci : Nat) : Nat → FieldType := match ci with
  | 0 => xF0
  | 1 => xF1
  | 2 => xF2
  | 3 => xF3
  | 4 => xF4
  | 5 => xF5
  | 6 => xF6
  | 7 => xF7
  | 8 => xF8
  | 9 => xF9
  | 10 => xF10
  | 11 => xF11
  | _ => fun _ => .int
def xg_tl : List FieldType := [.int, .long, .byte, .boolean, .object "LogicalTimes$Task", .object "LogicalTimes$Mode", .object "LogicalTimes$Exit", .object "LogicalTimes$Kind", .array .int]
def xg_CT : Nat := 600000
def xg_ST : Nat := 7290000
/-- the words that stay true where the tables grow -/
def xe_kw (w : Cond) : Bool := goodWord w || (match w with
  | .methodLinkNest _ _ _ _ => true
  | .fieldLinkNest _ _ _ _ _ _ => true
  | .declares _ => true
  | .castable _ _ => true
  | .arrayOver (.object _) => true
  | _ => false)
def xg_tb : List Cond := lw_tbl.filter xe_kw
theorem xg_w {w : Cond} (i : Nat) (h : (tables_1[i]?).filter xe_kw = some w) : w ∈ xg_tb := by
  obtain ⟨h1, h2⟩ := Option.filter_eq_some_iff.mp h
  exact List.mem_filter.mpr ⟨List.mem_append_right _ (List.mem_of_getElem? h1), h2⟩
theorem xg_s {w : Cond} (j : Nat) (h : ((k2_sels lw_privs)[j]?).filter xe_kw = some w) : w ∈ xg_tb := by
  obtain ⟨h1, h2⟩ := Option.filter_eq_some_iff.mp h
  exact List.mem_filter.mpr ⟨List.mem_append_left _ (List.mem_of_getElem? h1), h2⟩
theorem xg_ws {ws : List Cond} (ps : List Nat) (h : ws = ps.filterMap (fun i => (tables_1[i]?).filter xe_kw)) : ∀ w ∈ ws, w ∈ xg_tb := by
  intro w hw
  rw [h] at hw
  obtain ⟨i, -, hi⟩ := List.mem_filterMap.mp hw
  exact xg_w i hi
theorem xg_c1 {w : Cond} (i : Nat) (h0 : tables_1_1[i]? = some w) (hk : xe_kw w = true) : w ∈ xg_tb := by
  have h := List.mem_of_getElem? h0
  exact List.mem_filter.mpr ⟨List.mem_append_right _ (show w ∈ tables_1 from List.mem_append_left _ h), hk⟩
theorem xg_c2 {w : Cond} (i : Nat) (h0 : tables_1_2[i]? = some w) (hk : xe_kw w = true) : w ∈ xg_tb := by
  have h := List.mem_of_getElem? h0
  exact List.mem_filter.mpr ⟨List.mem_append_right _ (show w ∈ tables_1 from List.mem_append_right _ (List.mem_append_left _ h)), hk⟩
theorem xg_c3 {w : Cond} (i : Nat) (h0 : tables_1_3[i]? = some w) (hk : xe_kw w = true) : w ∈ xg_tb := by
  have h := List.mem_of_getElem? h0
  exact List.mem_filter.mpr ⟨List.mem_append_right _ (show w ∈ tables_1 from List.mem_append_right _ (List.mem_append_right _ (List.mem_append_left _ h))), hk⟩
theorem xg_c4 {w : Cond} (i : Nat) (h0 : tables_1_4[i]? = some w) (hk : xe_kw w = true) : w ∈ xg_tb := by
  have h := List.mem_of_getElem? h0
  exact List.mem_filter.mpr ⟨List.mem_append_right _ (show w ∈ tables_1 from List.mem_append_right _ (List.mem_append_right _ (List.mem_append_right _ (List.mem_append_left _ h)))), hk⟩
theorem xg_c5 {w : Cond} (i : Nat) (h0 : tables_1_5[i]? = some w) (hk : xe_kw w = true) : w ∈ xg_tb := by
  have h := List.mem_of_getElem? h0
  exact List.mem_filter.mpr ⟨List.mem_append_right _ (show w ∈ tables_1 from List.mem_append_right _ (List.mem_append_right _ (List.mem_append_right _ (List.mem_append_right _ (List.mem_append_left _ h))))), hk⟩
theorem xg_c6 {w : Cond} (i : Nat) (h0 : tables_1_6[i]? = some w) (hk : xe_kw w = true) : w ∈ xg_tb := by
  have h := List.mem_of_getElem? h0
  exact List.mem_filter.mpr ⟨List.mem_append_right _ (show w ∈ tables_1 from List.mem_append_right _ (List.mem_append_right _ (List.mem_append_right _ (List.mem_append_right _ (List.mem_append_right _ (List.mem_append_left _ h)))))), hk⟩
theorem xg_c7 {w : Cond} (i : Nat) (h0 : tables_1_7[i]? = some w) (hk : xe_kw w = true) : w ∈ xg_tb := by
  have h := List.mem_of_getElem? h0
  exact List.mem_filter.mpr ⟨List.mem_append_right _ (show w ∈ tables_1 from List.mem_append_right _ (List.mem_append_right _ (List.mem_append_right _ (List.mem_append_right _ (List.mem_append_right _ (List.mem_append_right _ (List.mem_append_left _ h))))))), hk⟩
theorem xg_c8 {w : Cond} (i : Nat) (h0 : tables_1_8[i]? = some w) (hk : xe_kw w = true) : w ∈ xg_tb := by
  have h := List.mem_of_getElem? h0
  exact List.mem_filter.mpr ⟨List.mem_append_right _ (show w ∈ tables_1 from List.mem_append_right _ (List.mem_append_right _ (List.mem_append_right _ (List.mem_append_right _ (List.mem_append_right _ (List.mem_append_right _ (List.mem_append_right _ (h)))))))), hk⟩
theorem xK0_w : ∀ w ∈ u_ws xR0 xT0 8, w ∈ xg_tb := xg_ws [89, 91, 93, 95, 97, 99, 101, 103] (by decide +kernel)
theorem xK0_t : ∀ k, k < 8 → parseFieldDescriptor (xT0 k).2.2.1 = some (xg_ft 0 k) := by decide +kernel
theorem xK0_n : ∀ a, a < 8 → ∀ b, b < 8 → a ≠ b → (xT0 a).2.1 ≠ (xT0 b).2.1 := by decide +kernel
theorem xK1_w : ∀ w ∈ u_ws xR1 xT1 5, w ∈ xg_tb := xg_ws [132, 134, 136, 138, 140] (by decide +kernel)
theorem xK1_t : ∀ k, k < 5 → parseFieldDescriptor (xT1 k).2.2.1 = some (xg_ft 1 k) := by decide +kernel
theorem xK1_n : ∀ a, a < 5 → ∀ b, b < 5 → a ≠ b → (xT1 a).2.1 ≠ (xT1 b).2.1 := by decide +kernel
theorem xK2_w : ∀ w ∈ u_ws xR2 xT2 13, w ∈ xg_tb := xg_ws [178, 180, 182, 184, 186, 188, 190, 192, 194, 196, 198, 200, 202] (by decide +kernel)
theorem xK2_t : ∀ k, k < 13 → parseFieldDescriptor (xT2 k).2.2.1 = some (xg_ft 2 k) := by decide +kernel
theorem xK2_n : ∀ a, a < 13 → ∀ b, b < 13 → a ≠ b → (xT2 a).2.1 ≠ (xT2 b).2.1 := by decide +kernel
theorem xK3_w : ∀ w ∈ u_ws xR3 xT3 4, w ∈ xg_tb := xg_ws [386, 388, 390, 392] (by decide +kernel)
theorem xK3_t : ∀ k, k < 4 → parseFieldDescriptor (xT3 k).2.2.1 = some (xg_ft 3 k) := by decide +kernel
theorem xK3_n : ∀ a, a < 4 → ∀ b, b < 4 → a ≠ b → (xT3 a).2.1 ≠ (xT3 b).2.1 := by decide +kernel
theorem xK4_w : ∀ w ∈ u_ws xR4 xT4 8, w ∈ xg_tb := xg_ws [350, 352, 354, 356, 358, 360, 362, 364] (by decide +kernel)
theorem xK4_t : ∀ k, k < 8 → parseFieldDescriptor (xT4 k).2.2.1 = some (xg_ft 4 k) := by decide +kernel
theorem xK4_n : ∀ a, a < 8 → ∀ b, b < 8 → a ≠ b → (xT4 a).2.1 ≠ (xT4 b).2.1 := by decide +kernel
theorem xK5_w : ∀ w ∈ u_ws xR5 xT5 12, w ∈ xg_tb := xg_ws [407, 409, 411, 413, 415, 417, 419, 421, 423, 425, 427, 429] (by decide +kernel)
theorem xK5_t : ∀ k, k < 12 → parseFieldDescriptor (xT5 k).2.2.1 = some (xg_ft 5 k) := by decide +kernel
theorem xK5_n : ∀ a, a < 12 → ∀ b, b < 12 → a ≠ b → (xT5 a).2.1 ≠ (xT5 b).2.1 := by decide +kernel
theorem xK6_w : ∀ w ∈ u_ws xR6 xT6 7, w ∈ xg_tb := xg_ws [231, 233, 235, 237, 239, 241, 243] (by decide +kernel)
theorem xK6_t : ∀ k, k < 7 → parseFieldDescriptor (xT6 k).2.2.1 = some (xg_ft 6 k) := by decide +kernel
theorem xK6_n : ∀ a, a < 7 → ∀ b, b < 7 → a ≠ b → (xT6 a).2.1 ≠ (xT6 b).2.1 := by decide +kernel
theorem xK7_w : ∀ w ∈ u_ws xR7 xT7 13, w ∈ xg_tb := xg_ws [465, 467, 469, 471, 473, 475, 477, 479, 481, 483, 485, 487, 489] (by decide +kernel)
theorem xK7_t : ∀ k, k < 13 → parseFieldDescriptor (xT7 k).2.2.1 = some (xg_ft 7 k) := by decide +kernel
theorem xK7_n : ∀ a, a < 13 → ∀ b, b < 13 → a ≠ b → (xT7 a).2.1 ≠ (xT7 b).2.1 := by decide +kernel
theorem xK8_w : ∀ w ∈ u_ws xR8 xT8 15, w ∈ xg_tb := xg_ws [294, 296, 298, 300, 302, 304, 306, 308, 310, 312, 314, 316, 318, 320, 322] (by decide +kernel)
theorem xK8_t : ∀ k, k < 15 → parseFieldDescriptor (xT8 k).2.2.1 = some (xg_ft 8 k) := by decide +kernel
theorem xK8_n : ∀ a, a < 15 → ∀ b, b < 15 → a ≠ b → (xT8 a).2.1 ≠ (xT8 b).2.1 := by decide +kernel
theorem xK9_w : ∀ w ∈ u_ws xR9 xT9 5, w ∈ xg_tb := xg_ws [53, 55, 57, 59, 61] (by decide +kernel)
theorem xK9_t : ∀ k, k < 5 → parseFieldDescriptor (xT9 k).2.2.1 = some (xg_ft 9 k) := by decide +kernel
theorem xK9_n : ∀ a, a < 5 → ∀ b, b < 5 → a ≠ b → (xT9 a).2.1 ≠ (xT9 b).2.1 := by decide +kernel
theorem xK10_w : ∀ w ∈ u_ws xR10 xT10 8, w ∈ xg_tb := xg_ws [500, 502, 504, 506, 508, 510, 512, 514] (by decide +kernel)
theorem xK10_t : ∀ k, k < 8 → parseFieldDescriptor (xT10 k).2.2.1 = some (xg_ft 10 k) := by decide +kernel
theorem xK10_n : ∀ a, a < 8 → ∀ b, b < 8 → a ≠ b → (xT10 a).2.1 ≠ (xT10 b).2.1 := by decide +kernel
theorem xK11_w : ∀ w ∈ u_ws xR11 xT11 87, w ∈ xg_tb := xg_ws [1255, 1257, 1259, 1261, 1263, 1265, 1267, 1269, 1271, 1273, 1275, 1277, 1279, 1281, 1283, 1285, 1287, 1289, 1291, 1293, 1295, 1297, 1299, 1301, 1303, 1305, 1307, 1309, 1311, 1313, 1315, 1317, 1319, 1321, 1323, 1325, 1327, 1329, 1331, 1333, 1335, 1337, 1339, 1341, 1343, 1345, 1347, 1349, 1351, 1353, 1355, 1357, 1359, 1361, 1363, 1365, 1367, 1369, 1371, 1373, 1375, 1377, 1379, 1381, 1383, 1385, 1387, 1389, 1391, 1393, 1395, 1397, 1399, 1401, 1403, 1405, 1407, 1409, 1411, 1413, 1415, 1417, 1419, 1421, 1423, 1425, 1427] (by decide +kernel)
theorem xK11_t : ∀ k, k < 87 → parseFieldDescriptor (xT11 k).2.2.1 = some (xg_ft 11 k) := by decide +kernel
theorem xK11_n : ∀ a, a < 87 → ∀ b, b < 87 → a ≠ b → (xT11 a).2.1 ≠ (xT11 b).2.1 := by decide +kernel
