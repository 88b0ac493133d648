/-! ===== BEGIN printed: names, fields, word lists, decode rows ===== -/
def RX0 : String := "MirrorJury$Box"
def TX0 : u_T := fun k => match k with
  | _ => ("", "", "", false)
def tyX0 : Nat → FieldType := fun k => match k with
  | _ => .int
abbrev wsX00 : List Cond := u_ws RX0 TX0 0
theorem nmX0 : ∀ a, a < 0 → ∀ b, b < 0 → a ≠ b → (TX0 a).2.1 ≠ (TX0 b).2.1 := by decide +kernel
theorem tyX0_ok : ∀ k, k < 0 → parseFieldDescriptor (TX0 k).2.2.1 = some (tyX0 k) := by decide +kernel
abbrev cX0_cellAt : ByteArray := prog_2_method_2_code
def yX0_cellAt : MethodName := ⟨RX0, "cellAt", "(I)I"⟩
abbrev cX0_directionAt : ByteArray := prog_2_method_3_code
def yX0_directionAt : MethodName := ⟨RX0, "directionAt", "(I)I"⟩
abbrev cX0_portAt : ByteArray := prog_2_method_4_code
def yX0_portAt : MethodName := ⟨RX0, "portAt", "(II)I"⟩
abbrev cX0_neighbour : ByteArray := prog_2_method_5_code
def yX0_neighbour : MethodName := ⟨RX0, "neighbour", "(II)I"⟩
abbrev cX0_reflected : ByteArray := prog_2_method_6_code
def yX0_reflected : MethodName := ⟨RX0, "reflected", "(CI)I"⟩
abbrev cX0_opposite : ByteArray := prog_2_method_7_code
def yX0_opposite : MethodName := ⟨RX0, "opposite", "(I)I"⟩
abbrev cX0_side : ByteArray := prog_2_method_8_code
def yX0_side : MethodName := ⟨RX0, "side", "(II)I"⟩
def RX1 : String := "MirrorJury$Courses"
def TX1 : u_T := fun k => match k with
  | 0 => ("MirrorJury$Courses", "efforts", "[I", true)
  | 1 => ("MirrorJury$Courses", "queue", "[I", true)
  | 2 => ("MirrorJury$Courses", "head", "I", false)
  | _ => ("MirrorJury$Courses", "waiting", "I", false)
def tyX1 : Nat → FieldType := fun k => match k with
  | 0 => .array .int
  | 1 => .array .int
  | 2 => .int
  | _ => .int
abbrev wsX10 : List Cond := u_ws RX1 TX1 4
theorem nmX1 : ∀ a, a < 4 → ∀ b, b < 4 → a ≠ b → (TX1 a).2.1 ≠ (TX1 b).2.1 := by decide +kernel
theorem tyX1_ok : ∀ k, k < 4 → parseFieldDescriptor (TX1 k).2.2.1 = some (tyX1 k) := by decide +kernel
abbrev cX1_init : ByteArray := prog_3_method_1_code
def yX1_init : MethodName := ⟨RX1, "<init>", "()V"⟩
abbrev cX1_start : ByteArray := prog_3_method_2_code
def yX1_start : MethodName := ⟨RX1, "start", "(I)I"⟩
abbrev cX1_effortInto : ByteArray := prog_3_method_3_code
def yX1_effortInto : MethodName := ⟨RX1, "effortInto", "(I)I"⟩
abbrev cX1_searchByQueue : ByteArray := prog_3_method_4_code
def yX1_searchByQueue : MethodName := ⟨RX1, "searchByQueue", "(LMirrorJury$Court;I)V"⟩
abbrev cX1_goOn : ByteArray := prog_3_method_5_code
def yX1_goOn : MethodName := ⟨RX1, "goOn", "(LMirrorJury$Court;I)V"⟩
abbrev cX1_reach : ByteArray := prog_3_method_6_code
def yX1_reach : MethodName := ⟨RX1, "reach", "(IIZ)V"⟩
abbrev cX1_putAhead : ByteArray := prog_3_method_7_code
def yX1_putAhead : MethodName := ⟨RX1, "putAhead", "(I)V"⟩
abbrev cX1_putBehind : ByteArray := prog_3_method_8_code
def yX1_putBehind : MethodName := ⟨RX1, "putBehind", "(I)V"⟩
abbrev cX1_takeFirst : ByteArray := prog_3_method_9_code
def yX1_takeFirst : MethodName := ⟨RX1, "takeFirst", "()I"⟩
abbrev cX1_searchByRounds : ByteArray := prog_3_method_10_code
def yX1_searchByRounds : MethodName := ⟨RX1, "searchByRounds", "(LMirrorJury$Court;I)V"⟩
abbrev cX1_lowerAll : ByteArray := prog_3_method_11_code
def yX1_lowerAll : MethodName := ⟨RX1, "lowerAll", "(LMirrorJury$Court;)Z"⟩
abbrev cX1_effortFromBehind : ByteArray := prog_3_method_12_code
def yX1_effortFromBehind : MethodName := ⟨RX1, "effortFromBehind", "(LMirrorJury$Court;I)I"⟩
def RX2 : String := "MirrorJury$Court"
def TX2 : u_T := fun k => match k with
  | 0 => ("MirrorJury$Court", "contents", "[C", true)
  | 1 => ("MirrorJury$Court", "cells", "[I", true)
  | 2 => ("MirrorJury$Court", "rankings", "[I", true)
  | 3 => ("MirrorJury$Court", "firstRankings", "[I", true)
  | 4 => ("MirrorJury$Court", "heard", "[I", true)
  | 5 => ("MirrorJury$Court", "verdicts", "[C", true)
  | 6 => ("MirrorJury$Court", "cats", "I", false)
  | 7 => ("MirrorJury$Court", "votingMethod", "C", false)
  | 8 => ("MirrorJury$Court", "held", "I", false)
  | 9 => ("MirrorJury$Court", "timesHung", "I", false)
  | 10 => ("MirrorJury$Court", "timesRetried", "I", false)
  | 11 => ("MirrorJury$Court", "given", "I", false)
  | 12 => ("MirrorJury$Court", "awaitsRetrial", "Z", false)
  | _ => ("MirrorJury$Court", "isAltered", "Z", false)
def tyX2 : Nat → FieldType := fun k => match k with
  | 0 => .array .char
  | 1 => .array .int
  | 2 => .array .int
  | 3 => .array .int
  | 4 => .array .int
  | 5 => .array .char
  | 6 => .int
  | 7 => .char
  | 8 => .int
  | 9 => .int
  | 10 => .int
  | 11 => .int
  | 12 => .boolean
  | _ => .boolean
abbrev wsX20 : List Cond := u_ws RX2 TX2 14
theorem nmX2 : ∀ a, a < 14 → ∀ b, b < 14 → a ≠ b → (TX2 a).2.1 ≠ (TX2 b).2.1 := by decide +kernel
theorem tyX2_ok : ∀ k, k < 14 → parseFieldDescriptor (TX2 k).2.2.1 = some (tyX2 k) := by decide +kernel
abbrev cX2_init : ByteArray := prog_4_method_1_code
def yX2_init : MethodName := ⟨RX2, "<init>", "()V"⟩
abbrev cX2_copyFrom : ByteArray := prog_4_method_2_code
def yX2_copyFrom : MethodName := ⟨RX2, "copyFrom", "(LMirrorJury$Court;)V"⟩
abbrev cX2_findCat : ByteArray := prog_4_method_3_code
def yX2_findCat : MethodName := ⟨RX2, "findCat", "(I)I"⟩
abbrev cX2_countMirrors : ByteArray := prog_4_method_4_code
def yX2_countMirrors : MethodName := ⟨RX2, "countMirrors", "()I"⟩
abbrev cX2_reasonAgainstCat : ByteArray := prog_4_method_5_code
def yX2_reasonAgainstCat : MethodName := ⟨RX2, "reasonAgainstCat", "(I)I"⟩
abbrev cX2_reasonAgainstMirror : ByteArray := prog_4_method_6_code
def yX2_reasonAgainstMirror : MethodName := ⟨RX2, "reasonAgainstMirror", "(I)I"⟩
abbrev cX2_seatCat : ByteArray := prog_4_method_7_code
def yX2_seatCat : MethodName := ⟨RX2, "seatCat", "(ICCC)V"⟩
abbrev cX2_rank : ByteArray := prog_4_method_8_code
def yX2_rank : MethodName := ⟨RX2, "rank", "(III)V"⟩
abbrev cX2_changeContent : ByteArray := prog_4_method_9_code
def yX2_changeContent : MethodName := ⟨RX2, "changeContent", "(IC)V"⟩
abbrev cX2_optionIn : ByteArray := prog_4_method_10_code
def yX2_optionIn : MethodName := ⟨RX2, "optionIn", "(II)I"⟩
abbrev cX2_placeIn : ByteArray := prog_4_method_11_code
def yX2_placeIn : MethodName := ⟨RX2, "placeIn", "(II)I"⟩
abbrev cX2_hear : ByteArray := prog_4_method_12_code
def yX2_hear : MethodName := ⟨RX2, "hear", "(II)V"⟩
abbrev cX2_conclude : ByteArray := prog_4_method_13_code
def yX2_conclude : MethodName := ⟨RX2, "conclude", "(C)V"⟩
abbrev cX2_mayRetry : ByteArray := prog_4_method_14_code
def yX2_mayRetry : MethodName := ⟨RX2, "mayRetry", "()Z"⟩
abbrev cX2_startAgain : ByteArray := prog_4_method_15_code
def yX2_startAgain : MethodName := ⟨RX2, "startAgain", "()I"⟩
abbrev cX2_resetRanking : ByteArray := prog_4_method_16_code
def yX2_resetRanking : MethodName := ⟨RX2, "resetRanking", "(I)Z"⟩
abbrev cX2_catsAhead : ByteArray := prog_4_method_17_code
def yX2_catsAhead : MethodName := ⟨RX2, "catsAhead", "(I)I"⟩
abbrev cX2_countHeard : ByteArray := prog_4_method_18_code
def yX2_countHeard : MethodName := ⟨RX2, "countHeard", "()I"⟩
def RX3 : String := "MirrorJury$History"
def TX3 : u_T := fun k => match k with
  | 0 => ("MirrorJury$History", "slots", "[LMirrorJury$Court;", true)
  | 1 => ("MirrorJury$History", "oldest", "I", false)
  | _ => ("MirrorJury$History", "kept", "I", false)
def tyX3 : Nat → FieldType := fun k => match k with
  | 0 => .array (.object "MirrorJury$Court")
  | 1 => .int
  | _ => .int
abbrev wsX30 : List Cond := u_ws RX3 TX3 3
theorem nmX3 : ∀ a, a < 3 → ∀ b, b < 3 → a ≠ b → (TX3 a).2.1 ≠ (TX3 b).2.1 := by decide +kernel
theorem tyX3_ok : ∀ k, k < 3 → parseFieldDescriptor (TX3 k).2.2.1 = some (tyX3 k) := by decide +kernel
abbrev cX3_init : ByteArray := prog_5_method_1_code
def yX3_init : MethodName := ⟨RX3, "<init>", "()V"⟩
abbrev cX3_slotOfMarked : ByteArray := prog_5_method_2_code
def yX3_slotOfMarked : MethodName := ⟨RX3, "slotOfMarked", "()LMirrorJury$Court;"⟩
abbrev cX3_mark : ByteArray := prog_5_method_3_code
def yX3_mark : MethodName := ⟨RX3, "mark", "(LMirrorJury$Court;)V"⟩
abbrev cX3_returnToMarked : ByteArray := prog_5_method_4_code
def yX3_returnToMarked : MethodName := ⟨RX3, "returnToMarked", "(LMirrorJury$Court;)V"⟩
abbrev cX3_keepMarked : ByteArray := prog_5_method_5_code
def yX3_keepMarked : MethodName := ⟨RX3, "keepMarked", "()V"⟩
abbrev cX3_keep : ByteArray := prog_5_method_6_code
def yX3_keep : MethodName := ⟨RX3, "keep", "(LMirrorJury$Court;)V"⟩
abbrev cX3_stepBack : ByteArray := prog_5_method_7_code
def yX3_stepBack : MethodName := ⟨RX3, "stepBack", "(LMirrorJury$Court;)V"⟩
def RX4 : String := "MirrorJury$Joining"
def TX4 : u_T := fun k => match k with
  | _ => ("MirrorJury$Joining", "parents", "[I", true)
def tyX4 : Nat → FieldType := fun k => match k with
  | _ => .array .int
abbrev wsX40 : List Cond := u_ws RX4 TX4 1
theorem nmX4 : ∀ a, a < 1 → ∀ b, b < 1 → a ≠ b → (TX4 a).2.1 ≠ (TX4 b).2.1 := by decide +kernel
theorem tyX4_ok : ∀ k, k < 1 → parseFieldDescriptor (TX4 k).2.2.1 = some (tyX4 k) := by decide +kernel
abbrev cX4_init : ByteArray := prog_6_method_1_code
def yX4_init : MethodName := ⟨RX4, "<init>", "()V"⟩
abbrev cX4_joinAll : ByteArray := prog_6_method_2_code
def yX4_joinAll : MethodName := ⟨RX4, "joinAll", "(LMirrorJury$Court;)V"⟩
abbrev cX4_joinToNeighbour : ByteArray := prog_6_method_3_code
def yX4_joinToNeighbour : MethodName := ⟨RX4, "joinToNeighbour", "(II)V"⟩
abbrev cX4_joinWithin : ByteArray := prog_6_method_4_code
def yX4_joinWithin : MethodName := ⟨RX4, "joinWithin", "(IC)V"⟩
abbrev cX4_join : ByteArray := prog_6_method_5_code
def yX4_join : MethodName := ⟨RX4, "join", "(II)V"⟩
abbrev cX4_rootOf : ByteArray := prog_6_method_6_code
def yX4_rootOf : MethodName := ⟨RX4, "rootOf", "(I)I"⟩
abbrev cX4_rootAt : ByteArray := prog_6_method_7_code
def yX4_rootAt : MethodName := ⟨RX4, "rootAt", "(I)I"⟩
abbrev cX4_otherEnd : ByteArray := prog_6_method_8_code
def yX4_otherEnd : MethodName := ⟨RX4, "otherEnd", "(I)I"⟩
def RX5 : String := "MirrorJury$Ray"
def TX5 : u_T := fun k => match k with
  | 0 => ("MirrorJury$Ray", "exit", "I", false)
  | 1 => ("MirrorJury$Ray", "cat", "I", false)
  | 2 => ("MirrorJury$Ray", "length", "I", false)
  | _ => ("MirrorJury$Ray", "bounces", "I", false)
def tyX5 : Nat → FieldType := fun k => match k with
  | 0 => .int
  | 1 => .int
  | 2 => .int
  | _ => .int
abbrev wsX50 : List Cond := u_ws RX5 TX5 4
theorem nmX5 : ∀ a, a < 4 → ∀ b, b < 4 → a ≠ b → (TX5 a).2.1 ≠ (TX5 b).2.1 := by decide +kernel
theorem tyX5_ok : ∀ k, k < 4 → parseFieldDescriptor (TX5 k).2.2.1 = some (tyX5 k) := by decide +kernel
abbrev cX5_init : ByteArray := prog_7_method_1_code
def yX5_init : MethodName := ⟨RX5, "<init>", "()V"⟩
abbrev cX5_follow : ByteArray := prog_7_method_2_code
def yX5_follow : MethodName := ⟨RX5, "follow", "(LMirrorJury$Court;I)V"⟩
def RX6 : String := "MirrorJury$Script"
def TX6 : u_T := fun k => match k with
  | 0 => ("MirrorJury$Script", "text", "Ljava/lang/StringBuilder;", true)
  | 1 => ("MirrorJury$Script", "position", "I", false)
  | 2 => ("MirrorJury$Script", "kind", "I", false)
  | 3 => ("MirrorJury$Script", "number", "I", false)
  | 4 => ("MirrorJury$Script", "first", "C", false)
  | 5 => ("MirrorJury$Script", "second", "C", false)
  | _ => ("MirrorJury$Script", "third", "C", false)
def tyX6 : Nat → FieldType := fun k => match k with
  | 0 => .object "java/lang/StringBuilder"
  | 1 => .int
  | 2 => .int
  | 3 => .int
  | 4 => .char
  | 5 => .char
  | _ => .char
abbrev wsX60 : List Cond := u_ws RX6 TX6 7
theorem nmX6 : ∀ a, a < 7 → ∀ b, b < 7 → a ≠ b → (TX6 a).2.1 ≠ (TX6 b).2.1 := by decide +kernel
theorem tyX6_ok : ∀ k, k < 7 → parseFieldDescriptor (TX6 k).2.2.1 = some (tyX6 k) := by decide +kernel
abbrev cX6_init : ByteArray := prog_8_method_1_code
def yX6_init : MethodName := ⟨RX6, "<init>", "()V"⟩
abbrev cX6_countCommands : ByteArray := prog_8_method_2_code
def yX6_countCommands : MethodName := ⟨RX6, "countCommands", "()I"⟩
abbrev cX6_skipSeparator : ByteArray := prog_8_method_3_code
def yX6_skipSeparator : MethodName := ⟨RX6, "skipSeparator", "()V"⟩
abbrev cX6_readCommand : ByteArray := prog_8_method_4_code
def yX6_readCommand : MethodName := ⟨RX6, "readCommand", "()Z"⟩
abbrev cX6_readMirrorOrMethod : ByteArray := prog_8_method_5_code
def yX6_readMirrorOrMethod : MethodName := ⟨RX6, "readMirrorOrMethod", "()Z"⟩
abbrev cX6_takeRanking : ByteArray := prog_8_method_6_code
def yX6_takeRanking : MethodName := ⟨RX6, "takeRanking", "()Z"⟩
abbrev cX6_peek : ByteArray := prog_8_method_7_code
def yX6_peek : MethodName := ⟨RX6, "peek", "()C"⟩
abbrev cX6_takeWord : ByteArray := prog_8_method_8_code
def yX6_takeWord : MethodName := ⟨RX6, "takeWord", "(Ljava/lang/String;)Z"⟩
abbrev cX6_isDigit : ByteArray := prog_8_method_9_code
def yX6_isDigit : MethodName := ⟨RX6, "isDigit", "(C)Z"⟩
abbrev cX6_takeNumber : ByteArray := prog_8_method_10_code
def yX6_takeNumber : MethodName := ⟨RX6, "takeNumber", "()Z"⟩
abbrev cX6_takeFirst : ByteArray := prog_8_method_11_code
def yX6_takeFirst : MethodName := ⟨RX6, "takeFirst", "(Ljava/lang/String;)Z"⟩
def RX7 : String := "MirrorJury$Votes"
def TX7 : u_T := fun k => match k with
  | 0 => ("MirrorJury$Votes", "pairs", "[I", true)
  | 1 => ("MirrorJury$Votes", "strengths", "[I", true)
  | 2 => ("MirrorJury$Votes", "ballots", "[I", true)
  | _ => ("MirrorJury$Votes", "roundsHeld", "I", false)
def tyX7 : Nat → FieldType := fun k => match k with
  | 0 => .array .int
  | 1 => .array .int
  | 2 => .array .int
  | _ => .int
abbrev wsX70 : List Cond := u_ws RX7 TX7 4
theorem nmX7 : ∀ a, a < 4 → ∀ b, b < 4 → a ≠ b → (TX7 a).2.1 ≠ (TX7 b).2.1 := by decide +kernel
theorem tyX7_ok : ∀ k, k < 4 → parseFieldDescriptor (TX7 k).2.2.1 = some (tyX7 k) := by decide +kernel
abbrev cX7_init : ByteArray := prog_9_method_1_code
def yX7_init : MethodName := ⟨RX7, "<init>", "()V"⟩
abbrev cX7_countPoints : ByteArray := prog_9_method_3_code
def yX7_countPoints : MethodName := ⟨RX7, "countPoints", "(LMirrorJury$Court;I)I"⟩
abbrev cX7_findMostPoints : ByteArray := prog_9_method_4_code
def yX7_findMostPoints : MethodName := ⟨RX7, "findMostPoints", "(LMirrorJury$Court;)I"⟩
abbrev cX7_voteInRounds : ByteArray := prog_9_method_5_code
def yX7_voteInRounds : MethodName := ⟨RX7, "voteInRounds", "(LMirrorJury$Court;)I"⟩
abbrev cX7_countBallots : ByteArray := prog_9_method_6_code
def yX7_countBallots : MethodName := ⟨RX7, "countBallots", "(LMirrorJury$Court;I)V"⟩
abbrev cX7_findFavourite : ByteArray := prog_9_method_7_code
def yX7_findFavourite : MethodName := ⟨RX7, "findFavourite", "(LMirrorJury$Court;II)I"⟩
abbrev cX7_findFewest : ByteArray := prog_9_method_8_code
def yX7_findFewest : MethodName := ⟨RX7, "findFewest", "(I)I"⟩
abbrev cX7_isIn : ByteArray := prog_9_method_9_code
def yX7_isIn : MethodName := ⟨RX7, "isIn", "(II)Z"⟩
abbrev cX7_pair : ByteArray := prog_9_method_10_code
def yX7_pair : MethodName := ⟨RX7, "pair", "(II)I"⟩
abbrev cX7_countPairs : ByteArray := prog_9_method_11_code
def yX7_countPairs : MethodName := ⟨RX7, "countPairs", "(LMirrorJury$Court;)V"⟩
abbrev cX7_preferring : ByteArray := prog_9_method_12_code
def yX7_preferring : MethodName := ⟨RX7, "preferring", "(II)I"⟩
abbrev cX7_victory : ByteArray := prog_9_method_13_code
def yX7_victory : MethodName := ⟨RX7, "victory", "(II)I"⟩
abbrev cX7_fillStrengths : ByteArray := prog_9_method_14_code
def yX7_fillStrengths : MethodName := ⟨RX7, "fillStrengths", "(LMirrorJury$Court;)V"⟩
abbrev cX7_tableStrength : ByteArray := prog_9_method_15_code
def yX7_tableStrength : MethodName := ⟨RX7, "tableStrength", "(II)I"⟩
abbrev cX7_triedStrength : ByteArray := prog_9_method_16_code
def yX7_triedStrength : MethodName := ⟨RX7, "triedStrength", "(III)I"⟩
abbrev cX7_reachedWith : ByteArray := prog_9_method_17_code
def yX7_reachedWith : MethodName := ⟨RX7, "reachedWith", "(II)I"⟩
abbrev cX7_findStrongest : ByteArray := prog_9_method_18_code
def yX7_findStrongest : MethodName := ⟨RX7, "findStrongest", "(LMirrorJury$Court;)I"⟩
abbrev cX7_holdsAgainstAll : ByteArray := prog_9_method_19_code
def yX7_holdsAgainstAll : MethodName := ⟨RX7, "holdsAgainstAll", "(I)Z"⟩
abbrev cX7_dominates : ByteArray := prog_9_method_20_code
def yX7_dominates : MethodName := ⟨RX7, "dominates", "(LMirrorJury$Court;I)Z"⟩
def RX8 : String := "MirrorJury"
def TX8 : u_T := fun k => match k with
  | 0 => ("MirrorJury", "court", "LMirrorJury$Court;", true)
  | 1 => ("MirrorJury", "snapshot", "LMirrorJury$Court;", true)
  | 2 => ("MirrorJury", "history", "LMirrorJury$History;", true)
  | 3 => ("MirrorJury", "ray", "LMirrorJury$Ray;", true)
  | 4 => ("MirrorJury", "joining", "LMirrorJury$Joining;", true)
  | 5 => ("MirrorJury", "queued", "LMirrorJury$Courses;", true)
  | 6 => ("MirrorJury", "lowered", "LMirrorJury$Courses;", true)
  | 7 => ("MirrorJury", "votes", "LMirrorJury$Votes;", true)
  | 8 => ("MirrorJury", "script", "LMirrorJury$Script;", true)
  | 9 => ("MirrorJury", "output", "Ljava/lang/StringBuilder;", true)
  | 10 => ("MirrorJury", "rayLengths", "[I", true)
  | 11 => ("MirrorJury", "snapshotIsSaved", "Z", false)
  | 12 => ("MirrorJury", "errorOffset", "I", false)
  | 13 => ("MirrorJury", "rejectedFor", "I", false)
  | 14 => ("MirrorJury", "rejectedWith", "I", false)
  | _ => ("MirrorJury", "rejectedCause", "I", false)
def tyX8 : Nat → FieldType := fun k => match k with
  | 0 => .object "MirrorJury$Court"
  | 1 => .object "MirrorJury$Court"
  | 2 => .object "MirrorJury$History"
  | 3 => .object "MirrorJury$Ray"
  | 4 => .object "MirrorJury$Joining"
  | 5 => .object "MirrorJury$Courses"
  | 6 => .object "MirrorJury$Courses"
  | 7 => .object "MirrorJury$Votes"
  | 8 => .object "MirrorJury$Script"
  | 9 => .object "java/lang/StringBuilder"
  | 10 => .array .int
  | 11 => .boolean
  | 12 => .int
  | 13 => .int
  | 14 => .int
  | _ => .int
abbrev wsX80 : List Cond := u_ws RX8 TX8 16
theorem nmX8 : ∀ a, a < 16 → ∀ b, b < 16 → a ≠ b → (TX8 a).2.1 ≠ (TX8 b).2.1 := by decide +kernel
theorem tyX8_ok : ∀ k, k < 16 → parseFieldDescriptor (TX8 k).2.2.1 = some (tyX8 k) := by decide +kernel
abbrev cX8_init : ByteArray := prog_1_method_1_code
def yX8_init : MethodName := ⟨RX8, "<init>", "()V"⟩
abbrev cX8_addCat : ByteArray := prog_1_method_2_code
def yX8_addCat : MethodName := ⟨RX8, "addCat", "(ICCC)I"⟩
abbrev cX8_setMirror : ByteArray := prog_1_method_3_code
def yX8_setMirror : MethodName := ⟨RX8, "setMirror", "(IC)I"⟩
abbrev cX8_catCount : ByteArray := prog_1_method_4_code
def yX8_catCount : MethodName := ⟨RX8, "catCount", "()I"⟩
abbrev cX8_cellOf : ByteArray := prog_1_method_5_code
def yX8_cellOf : MethodName := ⟨RX8, "cellOf", "(I)I"⟩
abbrev cX8_catIn : ByteArray := prog_1_method_6_code
def yX8_catIn : MethodName := ⟨RX8, "catIn", "(I)I"⟩
abbrev cX8_contentOf : ByteArray := prog_1_method_7_code
def yX8_contentOf : MethodName := ⟨RX8, "contentOf", "(I)C"⟩
abbrev cX8_optionAt : ByteArray := prog_1_method_8_code
def yX8_optionAt : MethodName := ⟨RX8, "optionAt", "(II)C"⟩
abbrev cX8_placeOf : ByteArray := prog_1_method_9_code
def yX8_placeOf : MethodName := ⟨RX8, "placeOf", "(IC)I"⟩
abbrev cX8_heardBy : ByteArray := prog_1_method_10_code
def yX8_heardBy : MethodName := ⟨RX8, "heardBy", "(I)I"⟩
abbrev cX8_rayEnd : ByteArray := prog_1_method_11_code
def yX8_rayEnd : MethodName := ⟨RX8, "rayEnd", "(I)I"⟩
abbrev cX8_rayEndByJoining : ByteArray := prog_1_method_12_code
def yX8_rayEndByJoining : MethodName := ⟨RX8, "rayEndByJoining", "(I)I"⟩
abbrev cX8_rayCat : ByteArray := prog_1_method_13_code
def yX8_rayCat : MethodName := ⟨RX8, "rayCat", "(I)I"⟩
abbrev cX8_rayLength : ByteArray := prog_1_method_14_code
def yX8_rayLength : MethodName := ⟨RX8, "rayLength", "(I)I"⟩
abbrev cX8_rayBounces : ByteArray := prog_1_method_15_code
def yX8_rayBounces : MethodName := ⟨RX8, "rayBounces", "(I)I"⟩
abbrev cX8_leastEffort : ByteArray := prog_1_method_16_code
def yX8_leastEffort : MethodName := ⟨RX8, "leastEffort", "(II)I"⟩
abbrev cX8_leastEffortByRounds : ByteArray := prog_1_method_17_code
def yX8_leastEffortByRounds : MethodName := ⟨RX8, "leastEffortByRounds", "(II)I"⟩
abbrev cX8_portByLength : ByteArray := prog_1_method_18_code
def yX8_portByLength : MethodName := ⟨RX8, "portByLength", "(I)I"⟩
abbrev cX8_testify : ByteArray := prog_1_method_19_code
def yX8_testify : MethodName := ⟨RX8, "testify", "(IC)I"⟩
abbrev cX8_prefer : ByteArray := prog_1_method_21_code
def yX8_prefer : MethodName := ⟨RX8, "prefer", "(CC)I"⟩
abbrev cX8_pointsWinner : ByteArray := prog_1_method_23_code
def yX8_pointsWinner : MethodName := ⟨RX8, "pointsWinner", "()C"⟩
abbrev cX8_roundsWinner : ByteArray := prog_1_method_24_code
def yX8_roundsWinner : MethodName := ⟨RX8, "roundsWinner", "()C"⟩
abbrev cX8_strengthOf : ByteArray := prog_1_method_26_code
def yX8_strengthOf : MethodName := ⟨RX8, "strengthOf", "(CC)I"⟩
abbrev cX8_strengthByTrying : ByteArray := prog_1_method_27_code
def yX8_strengthByTrying : MethodName := ⟨RX8, "strengthByTrying", "(CC)I"⟩
abbrev cX8_strengthWinner : ByteArray := prog_1_method_28_code
def yX8_strengthWinner : MethodName := ⟨RX8, "strengthWinner", "()C"⟩
abbrev cX8_isDominant : ByteArray := prog_1_method_29_code
def yX8_isDominant : MethodName := ⟨RX8, "isDominant", "(C)Z"⟩
abbrev cX8_setMethod : ByteArray := prog_1_method_30_code
def yX8_setMethod : MethodName := ⟨RX8, "setMethod", "(C)C"⟩
abbrev cX8_method : ByteArray := prog_1_method_31_code
def yX8_method : MethodName := ⟨RX8, "method", "()C"⟩
abbrev cX8_deliberate : ByteArray := prog_1_method_32_code
def yX8_deliberate : MethodName := ⟨RX8, "deliberate", "()C"⟩
abbrev cX8_retry : ByteArray := prog_1_method_33_code
def yX8_retry : MethodName := ⟨RX8, "retry", "()I"⟩
abbrev cX8_hasCause : ByteArray := prog_1_method_34_code
def yX8_hasCause : MethodName := ⟨RX8, "hasCause", "()Z"⟩
abbrev cX8_deliberations : ByteArray := prog_1_method_35_code
def yX8_deliberations : MethodName := ⟨RX8, "deliberations", "()I"⟩
abbrev cX8_verdictAt : ByteArray := prog_1_method_36_code
def yX8_verdictAt : MethodName := ⟨RX8, "verdictAt", "(I)C"⟩
abbrev cX8_hungCount : ByteArray := prog_1_method_37_code
def yX8_hungCount : MethodName := ⟨RX8, "hungCount", "()I"⟩
abbrev cX8_retrials : ByteArray := prog_1_method_38_code
def yX8_retrials : MethodName := ⟨RX8, "retrials", "()I"⟩
abbrev cX8_testimonies : ByteArray := prog_1_method_39_code
def yX8_testimonies : MethodName := ⟨RX8, "testimonies", "()I"⟩
abbrev cX8_catByHeard : ByteArray := prog_1_method_40_code
def yX8_catByHeard : MethodName := ⟨RX8, "catByHeard", "(I)I"⟩
abbrev cX8_isConsistent : ByteArray := prog_1_method_43_code
def yX8_isConsistent : MethodName := ⟨RX8, "isConsistent", "()Z"⟩
abbrev cX8_writeRow : ByteArray := prog_1_method_44_code
def yX8_writeRow : MethodName := ⟨RX8, "writeRow", "(I)I"⟩
abbrev cX8_appendInput : ByteArray := prog_1_method_47_code
def yX8_appendInput : MethodName := ⟨RX8, "appendInput", "(C)I"⟩
abbrev cX8_execute : ByteArray := prog_1_method_48_code
def yX8_execute : MethodName := ⟨RX8, "execute", "()I"⟩
abbrev cX8_undo : ByteArray := prog_1_method_53_code
def yX8_undo : MethodName := ⟨RX8, "undo", "()I"⟩
abbrev cX8_saveSnapshot : ByteArray := prog_1_method_54_code
def yX8_saveSnapshot : MethodName := ⟨RX8, "saveSnapshot", "()I"⟩
abbrev cX8_restoreSnapshot : ByteArray := prog_1_method_55_code
def yX8_restoreSnapshot : MethodName := ⟨RX8, "restoreSnapshot", "()I"⟩
abbrev cX8_isCell : ByteArray := prog_1_method_56_code
def yX8_isCell : MethodName := ⟨RX8, "isCell", "(I)Z"⟩
abbrev cX8_isPort : ByteArray := prog_1_method_57_code
def yX8_isPort : MethodName := ⟨RX8, "isPort", "(I)Z"⟩
abbrev cX8_isOption : ByteArray := prog_1_method_58_code
def yX8_isOption : MethodName := ⟨RX8, "isOption", "(C)Z"⟩
abbrev cX8_isContent : ByteArray := prog_1_method_59_code
def yX8_isContent : MethodName := ⟨RX8, "isContent", "(C)Z"⟩
abbrev cX8_isMethod : ByteArray := prog_1_method_60_code
def yX8_isMethod : MethodName := ⟨RX8, "isMethod", "(C)Z"⟩
abbrev cX8_areThreeOptions : ByteArray := prog_1_method_61_code
def yX8_areThreeOptions : MethodName := ⟨RX8, "areThreeOptions", "(CCC)Z"⟩
abbrev cX8_requireCell : ByteArray := prog_1_method_62_code
def yX8_requireCell : MethodName := ⟨RX8, "requireCell", "(I)V"⟩
abbrev cX8_requirePort : ByteArray := prog_1_method_63_code
def yX8_requirePort : MethodName := ⟨RX8, "requirePort", "(I)V"⟩
abbrev cX8_requireOption : ByteArray := prog_1_method_64_code
def yX8_requireOption : MethodName := ⟨RX8, "requireOption", "(C)V"⟩
abbrev cX8_requirePair : ByteArray := prog_1_method_65_code
def yX8_requirePair : MethodName := ⟨RX8, "requirePair", "(CC)V"⟩
abbrev cX8_requireCat : ByteArray := prog_1_method_66_code
def yX8_requireCat : MethodName := ⟨RX8, "requireCat", "(I)V"⟩
abbrev cX8_requireCats : ByteArray := prog_1_method_67_code
def yX8_requireCats : MethodName := ⟨RX8, "requireCats", "()V"⟩
abbrev cX8_reject : ByteArray := prog_1_method_69_code
def yX8_reject : MethodName := ⟨RX8, "reject", "(II)V"⟩
abbrev cX8_holdVote : ByteArray := prog_1_method_70_code
def yX8_holdVote : MethodName := ⟨RX8, "holdVote", "()V"⟩
abbrev cX8_portsAhead : ByteArray := prog_1_method_71_code
def yX8_portsAhead : MethodName := ⟨RX8, "portsAhead", "(I)I"⟩
abbrev cX8_raysAgree : ByteArray := prog_1_method_72_code
def yX8_raysAgree : MethodName := ⟨RX8, "raysAgree", "()Z"⟩
abbrev cX8_effortsAgree : ByteArray := prog_1_method_73_code
def yX8_effortsAgree : MethodName := ⟨RX8, "effortsAgree", "()Z"⟩
abbrev cX8_strengthsAgree : ByteArray := prog_1_method_74_code
def yX8_strengthsAgree : MethodName := ⟨RX8, "strengthsAgree", "()Z"⟩
abbrev cX8_runNextCommand : ByteArray := prog_1_method_75_code
def yX8_runNextCommand : MethodName := ⟨RX8, "runNextCommand", "()I"⟩
abbrev cX8_runCat : ByteArray := prog_1_method_76_code
def yX8_runCat : MethodName := ⟨RX8, "runCat", "()I"⟩
abbrev cX8_runMirror : ByteArray := prog_1_method_77_code
def yX8_runMirror : MethodName := ⟨RX8, "runMirror", "()I"⟩
abbrev cX8_runSay : ByteArray := prog_1_method_78_code
def yX8_runSay : MethodName := ⟨RX8, "runSay", "()I"⟩
abbrev cX8_indexOf : ByteArray := prog_1_method_79_code
def yX8_indexOf : MethodName := ⟨RX8, "indexOf", "(C)I"⟩
abbrev cX8_letterOf : ByteArray := prog_1_method_80_code
def yX8_letterOf : MethodName := ⟨RX8, "letterOf", "(I)C"⟩
abbrev cX8_digitOf : ByteArray := prog_1_method_81_code
def yX8_digitOf : MethodName := ⟨RX8, "digitOf", "(I)C"⟩
abbrev cX8_at : ByteArray := prog_1_method_82_code
def yX8_at : MethodName := ⟨RX8, "at", "([II)I"⟩
abbrev cX8_at_ : ByteArray := prog_1_method_83_code
def yX8_at_ : MethodName := ⟨RX8, "at", "([CI)C"⟩
abbrev cX8_put : ByteArray := prog_1_method_84_code
def yX8_put : MethodName := ⟨RX8, "put", "([III)V"⟩
abbrev cX8_put_ : ByteArray := prog_1_method_85_code
def yX8_put_ : MethodName := ⟨RX8, "put", "([CIC)V"⟩
abbrev cX8_copy : ByteArray := prog_1_method_86_code
def yX8_copy : MethodName := ⟨RX8, "copy", "([I[I)V"⟩
abbrev cX8_copy_ : ByteArray := prog_1_method_87_code
def yX8_copy_ : MethodName := ⟨RX8, "copy", "([C[C)V"⟩
def RX9 : String := "MirrorJuryModel"
def TX9 : u_T := fun k => match k with
  | _ => ("", "", "", false)
def tyX9 : Nat → FieldType := fun k => match k with
  | _ => .int
abbrev wsX90 : List Cond := u_ws RX9 TX9 0
theorem nmX9 : ∀ a, a < 0 → ∀ b, b < 0 → a ≠ b → (TX9 a).2.1 ≠ (TX9 b).2.1 := by decide +kernel
theorem tyX9_ok : ∀ k, k < 0 → parseFieldDescriptor (TX9 k).2.2.1 = some (tyX9 k) := by decide +kernel
def RJx145de : String := "java/io/Serializable"
def TJx145de : u_T := fun k => match k with
  | _ => ("", "", "", false)
def tyJx145de : Nat → FieldType := fun k => match k with
  | _ => .int
abbrev wsJx145de0 : List Cond := u_ws RJx145de TJx145de 0
theorem nmJx145de : ∀ a, a < 0 → ∀ b, b < 0 → a ≠ b → (TJx145de a).2.1 ≠ (TJx145de b).2.1 := by decide +kernel
theorem tyJx145de_ok : ∀ k, k < 0 → parseFieldDescriptor (TJx145de k).2.2.1 = some (tyJx145de k) := by decide +kernel
def RJ5 : String := "java/lang/AbstractStringBuilder"
def TJ5 : u_T := fun k => match k with
  | _ => ("", "", "", false)
def tyJ5 : Nat → FieldType := fun k => match k with
  | _ => .int
abbrev wsJ50 : List Cond := u_ws RJ5 TJ5 0
theorem nmJ5 : ∀ a, a < 0 → ∀ b, b < 0 → a ≠ b → (TJ5 a).2.1 ≠ (TJ5 b).2.1 := by decide +kernel
theorem tyJ5_ok : ∀ k, k < 0 → parseFieldDescriptor (TJ5 k).2.2.1 = some (tyJ5 k) := by decide +kernel
abbrev cJ5_init_d00df : ByteArray := prog_13_method_2_code
def yJ5_init_d00df : MethodName := ⟨RJ5, "<init>", "(I)V"⟩
abbrev cJ5_length_8abf5 : ByteArray := prog_13_method_6_code
def yJ5_length_8abf5 : MethodName := ⟨RJ5, "length", "()I"⟩
abbrev cJ5_ensureCapacityInternal_d00df : ByteArray := prog_13_method_9_code
def yJ5_ensureCapacityInternal_d00df : MethodName := ⟨RJ5, "ensureCapacityInternal", "(I)V"⟩
abbrev cJ5_newCapacity_0f7a4 : ByteArray := prog_13_method_10_code
def yJ5_newCapacity_0f7a4 : MethodName := ⟨RJ5, "newCapacity", "(I)I"⟩
abbrev cJ5_inflate_da8c8 : ByteArray := prog_13_method_11_code
def yJ5_inflate_da8c8 : MethodName := ⟨RJ5, "inflate", "()V"⟩
abbrev cJ5_setLength_d00df : ByteArray := prog_13_method_13_code
def yJ5_setLength_d00df : MethodName := ⟨RJ5, "setLength", "(I)V"⟩
abbrev cJ5_charAt_5068e : ByteArray := prog_13_method_14_code
def yJ5_charAt_5068e : MethodName := ⟨RJ5, "charAt", "(I)C"⟩
abbrev cJ5_append_cf1ce : ByteArray := prog_13_method_22_code
def yJ5_append_cf1ce : MethodName := ⟨RJ5, "append", "(Ljava/lang/String;)Ljava/lang/AbstractStringBuilder;"⟩
abbrev cJ5_appendNull_278bc : ByteArray := prog_13_method_26_code
def yJ5_appendNull_278bc : MethodName := ⟨RJ5, "appendNull", "()Ljava/lang/AbstractStringBuilder;"⟩
abbrev cJ5_append_3fe6f : ByteArray := prog_13_method_31_code
def yJ5_append_3fe6f : MethodName := ⟨RJ5, "append", "(C)Ljava/lang/AbstractStringBuilder;"⟩
abbrev cJ5_append_c97b9 : ByteArray := prog_13_method_32_code
def yJ5_append_c97b9 : MethodName := ⟨RJ5, "append", "(I)Ljava/lang/AbstractStringBuilder;"⟩
abbrev cJ5_getValue_6d5f1 : ByteArray := prog_13_method_64_code
def yJ5_getValue_6d5f1 : MethodName := ⟨RJ5, "getValue", "()[B"⟩
abbrev cJ5_isLatin1_aae02 : ByteArray := prog_13_method_68_code
def yJ5_isLatin1_aae02 : MethodName := ⟨RJ5, "isLatin1", "()Z"⟩
abbrev cJ5_inflateIfNeededFor_a7421 : ByteArray := prog_13_method_71_code
def yJ5_inflateIfNeededFor_a7421 : MethodName := ⟨RJ5, "inflateIfNeededFor", "(Ljava/lang/String;)V"⟩
abbrev cJ5_putStringAt_47b60 : ByteArray := prog_13_method_73_code
def yJ5_putStringAt_47b60 : MethodName := ⟨RJ5, "putStringAt", "(ILjava/lang/String;)V"⟩
def RJx2cfe8 : String := "java/lang/Appendable"
def TJx2cfe8 : u_T := fun k => match k with
  | _ => ("", "", "", false)
def tyJx2cfe8 : Nat → FieldType := fun k => match k with
  | _ => .int
abbrev wsJx2cfe80 : List Cond := u_ws RJx2cfe8 TJx2cfe8 0
theorem nmJx2cfe8 : ∀ a, a < 0 → ∀ b, b < 0 → a ≠ b → (TJx2cfe8 a).2.1 ≠ (TJx2cfe8 b).2.1 := by decide +kernel
theorem tyJx2cfe8_ok : ∀ k, k < 0 → parseFieldDescriptor (TJx2cfe8 k).2.2.1 = some (tyJx2cfe8 k) := by decide +kernel
def RJx00060 : String := "java/lang/ArrayIndexOutOfBoundsException"
def TJx00060 : u_T := fun k => match k with
  | 0 => ("java/lang/Throwable", "cause", "Ljava/lang/Throwable;", false)
  | 1 => ("java/lang/Throwable", "stackTrace", "[Ljava/lang/StackTraceElement;", false)
  | 2 => ("java/lang/Throwable", "suppressedExceptions", "Ljava/util/List;", false)
  | 3 => ("java/lang/Throwable", "detailMessage", "Ljava/lang/String;", false)
  | 4 => ("java/lang/Throwable", "backtrace", "Ljava/lang/Object;", false)
  | _ => ("java/lang/Throwable", "depth", "I", false)
def tyJx00060 : Nat → FieldType := fun k => match k with
  | 0 => .object "java/lang/Throwable"
  | 1 => .array (.object "java/lang/StackTraceElement")
  | 2 => .object "java/util/List"
  | 3 => .object "java/lang/String"
  | 4 => .object "java/lang/Object"
  | _ => .int
abbrev wsJx000600 : List Cond := u_ws RJx00060 TJx00060 6
theorem nmJx00060 : ∀ a, a < 6 → ∀ b, b < 6 → a ≠ b → (TJx00060 a).2.1 ≠ (TJx00060 b).2.1 := by decide +kernel
theorem tyJx00060_ok : ∀ k, k < 6 → parseFieldDescriptor (TJx00060 k).2.2.1 = some (tyJx00060 k) := by decide +kernel
abbrev cJx00060_init_a7421 : ByteArray := prog_15_method_2_code
def yJx00060_init_a7421 : MethodName := ⟨RJx00060, "<init>", "(Ljava/lang/String;)V"⟩
abbrev cJx00060_init_d00df : ByteArray := prog_15_method_3_code
def yJx00060_init_d00df : MethodName := ⟨RJx00060, "<init>", "(I)V"⟩
def RJx9f9b0 : String := "java/lang/CharSequence"
def TJx9f9b0 : u_T := fun k => match k with
  | _ => ("", "", "", false)
def tyJx9f9b0 : Nat → FieldType := fun k => match k with
  | _ => .int
abbrev wsJx9f9b00 : List Cond := u_ws RJx9f9b0 TJx9f9b0 0
theorem nmJx9f9b0 : ∀ a, a < 0 → ∀ b, b < 0 → a ≠ b → (TJx9f9b0 a).2.1 ≠ (TJx9f9b0 b).2.1 := by decide +kernel
theorem tyJx9f9b0_ok : ∀ k, k < 0 → parseFieldDescriptor (TJx9f9b0 k).2.2.1 = some (tyJx9f9b0 k) := by decide +kernel
def RJ11 : String := "java/lang/Character"
def TJ11 : u_T := fun k => match k with
  | _ => ("", "", "", false)
def tyJ11 : Nat → FieldType := fun k => match k with
  | _ => .int
abbrev wsJ110 : List Cond := u_ws RJ11 TJ11 0
theorem nmJ11 : ∀ a, a < 0 → ∀ b, b < 0 → a ≠ b → (TJ11 a).2.1 ≠ (TJ11 b).2.1 := by decide +kernel
theorem tyJ11_ok : ∀ k, k < 0 → parseFieldDescriptor (TJ11 k).2.2.1 = some (tyJ11 k) := by decide +kernel
abbrev cJ11_isValidCodePoint_9a6ad : ByteArray := prog_17_method_11_code
def yJ11_isValidCodePoint_9a6ad : MethodName := ⟨RJ11, "isValidCodePoint", "(I)Z"⟩
abbrev cJ11_highSurrogate_5068e : ByteArray := prog_17_method_28_code
def yJ11_highSurrogate_5068e : MethodName := ⟨RJ11, "highSurrogate", "(I)C"⟩
abbrev cJ11_lowSurrogate_5068e : ByteArray := prog_17_method_29_code
def yJ11_lowSurrogate_5068e : MethodName := ⟨RJ11, "lowSurrogate", "(I)C"⟩
def RJx8e188 : String := "java/lang/Cloneable"
def TJx8e188 : u_T := fun k => match k with
  | _ => ("", "", "", false)
def tyJx8e188 : Nat → FieldType := fun k => match k with
  | _ => .int
abbrev wsJx8e1880 : List Cond := u_ws RJx8e188 TJx8e188 0
theorem nmJx8e188 : ∀ a, a < 0 → ∀ b, b < 0 → a ≠ b → (TJx8e188 a).2.1 ≠ (TJx8e188 b).2.1 := by decide +kernel
theorem tyJx8e188_ok : ∀ k, k < 0 → parseFieldDescriptor (TJx8e188 k).2.2.1 = some (tyJx8e188 k) := by decide +kernel
def RJxb160c : String := "java/lang/Comparable"
def TJxb160c : u_T := fun k => match k with
  | _ => ("", "", "", false)
def tyJxb160c : Nat → FieldType := fun k => match k with
  | _ => .int
abbrev wsJxb160c0 : List Cond := u_ws RJxb160c TJxb160c 0
theorem nmJxb160c : ∀ a, a < 0 → ∀ b, b < 0 → a ≠ b → (TJxb160c a).2.1 ≠ (TJxb160c b).2.1 := by decide +kernel
theorem tyJxb160c_ok : ∀ k, k < 0 → parseFieldDescriptor (TJxb160c k).2.2.1 = some (tyJxb160c k) := by decide +kernel
def RJ6 : String := "java/lang/Integer"
def TJ6 : u_T := fun k => match k with
  | _ => ("", "", "", false)
def tyJ6 : Nat → FieldType := fun k => match k with
  | _ => .int
abbrev wsJ60 : List Cond := u_ws RJ6 TJ6 0
theorem nmJ6 : ∀ a, a < 0 → ∀ b, b < 0 → a ≠ b → (TJ6 a).2.1 ≠ (TJ6 b).2.1 := by decide +kernel
theorem tyJ6_ok : ∀ k, k < 0 → parseFieldDescriptor (TJ6 k).2.2.1 = some (tyJ6 k) := by decide +kernel
abbrev cJ6_getChars_ba4f3 : ByteArray := prog_24_method_12_code
def yJ6_getChars_ba4f3 : MethodName := ⟨RJ6, "getChars", "(II[B)I"⟩
abbrev cJ6_stringSize_0f7a4 : ByteArray := prog_24_method_13_code
def yJ6_stringSize_0f7a4 : MethodName := ⟨RJ6, "stringSize", "(I)I"⟩
def RJ9 : String := "java/lang/Math"
def TJ9 : u_T := fun k => match k with
  | _ => ("", "", "", false)
def tyJ9 : Nat → FieldType := fun k => match k with
  | _ => .int
abbrev wsJ90 : List Cond := u_ws RJ9 TJ9 0
theorem nmJ9 : ∀ a, a < 0 → ∀ b, b < 0 → a ≠ b → (TJ9 a).2.1 ≠ (TJ9 b).2.1 := by decide +kernel
theorem tyJ9_ok : ∀ k, k < 0 → parseFieldDescriptor (TJ9 k).2.2.1 = some (tyJ9 k) := by decide +kernel
abbrev cJ9_max_7cf53 : ByteArray := prog_25_method_65_code
def yJ9_max_7cf53 : MethodName := ⟨RJ9, "max", "(II)I"⟩
abbrev cJ9_min_7cf53 : ByteArray := prog_25_method_69_code
def yJ9_min_7cf53 : MethodName := ⟨RJ9, "min", "(II)I"⟩
def RJxd2413 : String := "java/lang/Number"
def TJxd2413 : u_T := fun k => match k with
  | _ => ("", "", "", false)
def tyJxd2413 : Nat → FieldType := fun k => match k with
  | _ => .int
abbrev wsJxd24130 : List Cond := u_ws RJxd2413 TJxd2413 0
theorem nmJxd2413 : ∀ a, a < 0 → ∀ b, b < 0 → a ≠ b → (TJxd2413 a).2.1 ≠ (TJxd2413 b).2.1 := by decide +kernel
theorem tyJxd2413_ok : ∀ k, k < 0 → parseFieldDescriptor (TJxd2413 k).2.2.1 = some (tyJxd2413 k) := by decide +kernel
def RJ0 : String := "java/lang/String"
def TJ0 : u_T := fun k => match k with
  | 0 => ("java/lang/String", "value", "[B", true)
  | 1 => ("java/lang/String", "coder", "B", true)
  | 2 => ("java/lang/String", "hash", "I", false)
  | _ => ("java/lang/String", "hashIsZero", "Z", false)
def tyJ0 : Nat → FieldType := fun k => match k with
  | 0 => .array .byte
  | 1 => .byte
  | 2 => .int
  | _ => .boolean
abbrev wsJ00 : List Cond := u_ws RJ0 TJ0 4
theorem nmJ0 : ∀ a, a < 4 → ∀ b, b < 4 → a ≠ b → (TJ0 a).2.1 ≠ (TJ0 b).2.1 := by decide +kernel
theorem tyJ0_ok : ∀ k, k < 4 → parseFieldDescriptor (TJ0 k).2.2.1 = some (tyJ0 k) := by decide +kernel
abbrev cJ0_init_81219 : ByteArray := prog_28_method_53_code
def yJ0_init_81219 : MethodName := ⟨RJ0, "<init>", "(Ljava/lang/StringBuilder;)V"⟩
abbrev cJ0_length_8abf5 : ByteArray := prog_28_method_54_code
def yJ0_length_8abf5 : MethodName := ⟨RJ0, "length", "()I"⟩
abbrev cJ0_charAt_5068e : ByteArray := prog_28_method_56_code
def yJ0_charAt_5068e : MethodName := ⟨RJ0, "charAt", "(I)C"⟩
abbrev cJ0_indexOf_0f7a4 : ByteArray := prog_28_method_79_code
def yJ0_indexOf_0f7a4 : MethodName := ⟨RJ0, "indexOf", "(I)I"⟩
abbrev cJ0_indexOf_7cf53 : ByteArray := prog_28_method_80_code
def yJ0_indexOf_7cf53 : MethodName := ⟨RJ0, "indexOf", "(II)I"⟩
abbrev cJ0_getBytes_840e7 : ByteArray := prog_28_method_147_code
def yJ0_getBytes_840e7 : MethodName := ⟨RJ0, "getBytes", "([BIB)V"⟩
abbrev cJ0_init_db425 : ByteArray := prog_28_method_150_code
def yJ0_init_db425 : MethodName := ⟨RJ0, "<init>", "(Ljava/lang/AbstractStringBuilder;Ljava/lang/Void;)V"⟩
abbrev cJ0_coder_7d493 : ByteArray := prog_28_method_152_code
def yJ0_coder_7d493 : MethodName := ⟨RJ0, "coder", "()B"⟩
abbrev cJ0_isLatin1_aae02 : ByteArray := prog_28_method_154_code
def yJ0_isLatin1_aae02 : MethodName := ⟨RJ0, "isLatin1", "()Z"⟩
abbrev cJ0_checkIndex_df160 : ByteArray := prog_28_method_155_code
def yJ0_checkIndex_df160 : MethodName := ⟨RJ0, "checkIndex", "(II)V"⟩
abbrev cJ0_checkBoundsOffCount_cabcc : ByteArray := prog_28_method_157_code
def yJ0_checkBoundsOffCount_cabcc : MethodName := ⟨RJ0, "checkBoundsOffCount", "(III)I"⟩
abbrev cJ0_checkBoundsBeginEnd_23922 : ByteArray := prog_28_method_158_code
def yJ0_checkBoundsBeginEnd_23922 : MethodName := ⟨RJ0, "checkBoundsBeginEnd", "(III)V"⟩
def RJ4 : String := "java/lang/StringBuilder"
def TJ4 : u_T := fun k => match k with
  | 0 => ("java/lang/AbstractStringBuilder", "value", "[B", false)
  | 1 => ("java/lang/AbstractStringBuilder", "coder", "B", false)
  | 2 => ("java/lang/AbstractStringBuilder", "maybeLatin1", "Z", false)
  | _ => ("java/lang/AbstractStringBuilder", "count", "I", false)
def tyJ4 : Nat → FieldType := fun k => match k with
  | 0 => .array .byte
  | 1 => .byte
  | 2 => .boolean
  | _ => .int
abbrev wsJ40 : List Cond := u_ws RJ4 TJ4 4
theorem nmJ4 : ∀ a, a < 4 → ∀ b, b < 4 → a ≠ b → (TJ4 a).2.1 ≠ (TJ4 b).2.1 := by decide +kernel
theorem tyJ4_ok : ∀ k, k < 4 → parseFieldDescriptor (TJ4 k).2.2.1 = some (tyJ4 k) := by decide +kernel
abbrev cJ4_init_da8c8 : ByteArray := prog_29_method_1_code
def yJ4_init_da8c8 : MethodName := ⟨RJ4, "<init>", "()V"⟩
abbrev cJ4_append_15ec4 : ByteArray := prog_29_method_7_code
def yJ4_append_15ec4 : MethodName := ⟨RJ4, "append", "(Ljava/lang/String;)Ljava/lang/StringBuilder;"⟩
abbrev cJ4_append_cf468 : ByteArray := prog_29_method_14_code
def yJ4_append_cf468 : MethodName := ⟨RJ4, "append", "(C)Ljava/lang/StringBuilder;"⟩
abbrev cJ4_append_bf812 : ByteArray := prog_29_method_15_code
def yJ4_append_bf812 : MethodName := ⟨RJ4, "append", "(I)Ljava/lang/StringBuilder;"⟩
abbrev cJ4_toString_0e30d : ByteArray := prog_29_method_42_code
def yJ4_toString_0e30d : MethodName := ⟨RJ4, "toString", "()Ljava/lang/String;"⟩
abbrev cJ4_charAt_5068e : ByteArray := prog_29_method_88_code
def yJ4_charAt_5068e : MethodName := ⟨RJ4, "charAt", "(I)C"⟩
abbrev cJ4_setLength_d00df : ByteArray := prog_29_method_89_code
def yJ4_setLength_d00df : MethodName := ⟨RJ4, "setLength", "(I)V"⟩
abbrev cJ4_length_8abf5 : ByteArray := prog_29_method_93_code
def yJ4_length_8abf5 : MethodName := ⟨RJ4, "length", "()I"⟩
def RJx7c733 : String := "java/lang/StringIndexOutOfBoundsException"
def TJx7c733 : u_T := fun k => match k with
  | 0 => ("java/lang/Throwable", "backtrace", "Ljava/lang/Object;", false)
  | 1 => ("java/lang/Throwable", "detailMessage", "Ljava/lang/String;", false)
  | 2 => ("java/lang/Throwable", "cause", "Ljava/lang/Throwable;", false)
  | 3 => ("java/lang/Throwable", "stackTrace", "[Ljava/lang/StackTraceElement;", false)
  | 4 => ("java/lang/Throwable", "depth", "I", false)
  | _ => ("java/lang/Throwable", "suppressedExceptions", "Ljava/util/List;", false)
def tyJx7c733 : Nat → FieldType := fun k => match k with
  | 0 => .object "java/lang/Object"
  | 1 => .object "java/lang/String"
  | 2 => .object "java/lang/Throwable"
  | 3 => .array (.object "java/lang/StackTraceElement")
  | 4 => .int
  | _ => .object "java/util/List"
abbrev wsJx7c7330 : List Cond := u_ws RJx7c733 TJx7c733 6
theorem nmJx7c733 : ∀ a, a < 6 → ∀ b, b < 6 → a ≠ b → (TJx7c733 a).2.1 ≠ (TJx7c733 b).2.1 := by decide +kernel
theorem tyJx7c733_ok : ∀ k, k < 6 → parseFieldDescriptor (TJx7c733 k).2.2.1 = some (tyJx7c733 k) := by decide +kernel
abbrev cJx7c733_init_d00df : ByteArray := prog_30_method_3_code
def yJx7c733_init_d00df : MethodName := ⟨RJx7c733, "<init>", "(I)V"⟩
def RJ1 : String := "java/lang/StringLatin1"
def TJ1 : u_T := fun k => match k with
  | _ => ("", "", "", false)
def tyJ1 : Nat → FieldType := fun k => match k with
  | _ => .int
abbrev wsJ10 : List Cond := u_ws RJ1 TJ1 0
theorem nmJ1 : ∀ a, a < 0 → ∀ b, b < 0 → a ≠ b → (TJ1 a).2.1 ≠ (TJ1 b).2.1 := by decide +kernel
theorem tyJ1_ok : ∀ k, k < 0 → parseFieldDescriptor (TJ1 k).2.2.1 = some (tyJ1 k) := by decide +kernel
abbrev cJ1_charAt_3b067 : ByteArray := prog_31_method_2_code
def yJ1_charAt_3b067 : MethodName := ⟨RJ1, "charAt", "([BI)C"⟩
abbrev cJ1_canEncode_fc78d : ByteArray := prog_31_method_3_code
def yJ1_canEncode_fc78d : MethodName := ⟨RJ1, "canEncode", "(C)Z"⟩
abbrev cJ1_canEncode_9a6ad : ByteArray := prog_31_method_4_code
def yJ1_canEncode_9a6ad : MethodName := ⟨RJ1, "canEncode", "(I)Z"⟩
abbrev cJ1_indexOf_4cfef : ByteArray := prog_31_method_22_code
def yJ1_indexOf_4cfef : MethodName := ⟨RJ1, "indexOf", "([BIII)I"⟩
abbrev cJ1_indexOfChar_4cfef : ByteArray := prog_31_method_23_code
def yJ1_indexOfChar_4cfef : MethodName := ⟨RJ1, "indexOfChar", "([BIII)I"⟩
abbrev cJ1_fillNull_b72d1 : ByteArray := prog_31_method_48_code
def yJ1_fillNull_b72d1 : MethodName := ⟨RJ1, "fillNull", "([BII)V"⟩
abbrev cJ1_inflate_0e8fd : ByteArray := prog_31_method_50_code
def yJ1_inflate_0e8fd : MethodName := ⟨RJ1, "inflate", "([BI[BII)V"⟩
def RJ2 : String := "java/lang/StringUTF16"
def TJ2 : u_T := fun k => match k with
  | _ => ("", "", "", false)
def tyJ2 : Nat → FieldType := fun k => match k with
  | _ => .int
abbrev wsJ20 : List Cond := u_ws RJ2 TJ2 0
theorem nmJ2 : ∀ a, a < 0 → ∀ b, b < 0 → a ≠ b → (TJ2 a).2.1 ≠ (TJ2 b).2.1 := by decide +kernel
theorem tyJ2_ok : ∀ k, k < 0 → parseFieldDescriptor (TJ2 k).2.2.1 = some (tyJ2 k) := by decide +kernel
abbrev cJ2_newBytesFor_77867 : ByteArray := prog_32_method_2_code
def yJ2_newBytesFor_77867 : MethodName := ⟨RJ2, "newBytesFor", "(I)[B"⟩
abbrev cJ2_newBytesLength_0f7a4 : ByteArray := prog_32_method_3_code
def yJ2_newBytesLength_0f7a4 : MethodName := ⟨RJ2, "newBytesLength", "(I)I"⟩
abbrev cJ2_putChar_b72d1 : ByteArray := prog_32_method_4_code
def yJ2_putChar_b72d1 : MethodName := ⟨RJ2, "putChar", "([BII)V"⟩
abbrev cJ2_getChar_3b067 : ByteArray := prog_32_method_5_code
def yJ2_getChar_3b067 : MethodName := ⟨RJ2, "getChar", "([BI)C"⟩
abbrev cJ2_length_9d52b : ByteArray := prog_32_method_6_code
def yJ2_length_9d52b : MethodName := ⟨RJ2, "length", "([B)I"⟩
abbrev cJ2_coderFromArrayLen_85cad : ByteArray := prog_32_method_15_code
def yJ2_coderFromArrayLen_85cad : MethodName := ⟨RJ2, "coderFromArrayLen", "([BI)B"⟩
abbrev cJ2_compress_39247 : ByteArray := prog_32_method_17_code
def yJ2_compress_39247 : MethodName := ⟨RJ2, "compress", "([BII)[B"⟩
abbrev cJ2_compress_5af95 : ByteArray := prog_32_method_22_code
def yJ2_compress_5af95 : MethodName := ⟨RJ2, "compress", "([BI[BII)I"⟩
abbrev cJ2_indexOf_4cfef : ByteArray := prog_32_method_40_code
def yJ2_indexOf_4cfef : MethodName := ⟨RJ2, "indexOf", "([BIII)I"⟩
abbrev cJ2_indexOfChar_4cfef : ByteArray := prog_32_method_47_code
def yJ2_indexOfChar_4cfef : MethodName := ⟨RJ2, "indexOfChar", "([BIII)I"⟩
abbrev cJ2_indexOfCharUnsafe_4cfef : ByteArray := prog_32_method_48_code
def yJ2_indexOfCharUnsafe_4cfef : MethodName := ⟨RJ2, "indexOfCharUnsafe", "([BIII)I"⟩
abbrev cJ2_indexOfSupplementary_4cfef : ByteArray := prog_32_method_49_code
def yJ2_indexOfSupplementary_4cfef : MethodName := ⟨RJ2, "indexOfSupplementary", "([BIII)I"⟩
abbrev cJ2_fillNull_b72d1 : ByteArray := prog_32_method_70_code
def yJ2_fillNull_b72d1 : MethodName := ⟨RJ2, "fillNull", "([BII)V"⟩
abbrev cJ2_putCharSB_b72d1 : ByteArray := prog_32_method_71_code
def yJ2_putCharSB_b72d1 : MethodName := ⟨RJ2, "putCharSB", "([BII)V"⟩
abbrev cJ2_getChars_46870 : ByteArray := prog_32_method_77_code
def yJ2_getChars_46870 : MethodName := ⟨RJ2, "getChars", "(III[B)I"⟩
abbrev cJ2_putCharsAt_cd4e5 : ByteArray := prog_32_method_81_code
def yJ2_putCharsAt_cd4e5 : MethodName := ⟨RJ2, "putCharsAt", "([BICCCC)I"⟩
abbrev cJ2_charAt_3b067 : ByteArray := prog_32_method_83_code
def yJ2_charAt_3b067 : MethodName := ⟨RJ2, "charAt", "([BI)C"⟩
abbrev cJ2_inflate_0e8fd : ByteArray := prog_32_method_86_code
def yJ2_inflate_0e8fd : MethodName := ⟨RJ2, "inflate", "([BI[BII)V"⟩
abbrev cJ2_getChars_ba4f3 : ByteArray := prog_32_method_89_code
def yJ2_getChars_ba4f3 : MethodName := ⟨RJ2, "getChars", "(II[B)I"⟩
abbrev cJ2_checkIndex_2214a : ByteArray := prog_32_method_91_code
def yJ2_checkIndex_2214a : MethodName := ⟨RJ2, "checkIndex", "(I[B)V"⟩
abbrev cJ2_checkBoundsBeginEnd_d044e : ByteArray := prog_32_method_93_code
def yJ2_checkBoundsBeginEnd_d044e : MethodName := ⟨RJ2, "checkBoundsBeginEnd", "(II[B)V"⟩
abbrev cJ2_checkBoundsOffCount_d044e : ByteArray := prog_32_method_94_code
def yJ2_checkBoundsOffCount_d044e : MethodName := ⟨RJ2, "checkBoundsOffCount", "(II[B)V"⟩
def RJ10 : String := "java/lang/System"
def TJ10 : u_T := fun k => match k with
  | _ => ("", "", "", false)
def tyJ10 : Nat → FieldType := fun k => match k with
  | _ => .int
abbrev wsJ100 : List Cond := u_ws RJ10 TJ10 0
theorem nmJ10 : ∀ a, a < 0 → ∀ b, b < 0 → a ≠ b → (TJ10 a).2.1 ≠ (TJ10 b).2.1 := by decide +kernel
theorem tyJ10_ok : ∀ k, k < 0 → parseFieldDescriptor (TJ10 k).2.2.1 = some (tyJ10 k) := by decide +kernel
def RJxfd54e : String := "java/lang/constant/Constable"
def TJxfd54e : u_T := fun k => match k with
  | _ => ("", "", "", false)
def tyJxfd54e : Nat → FieldType := fun k => match k with
  | _ => .int
abbrev wsJxfd54e0 : List Cond := u_ws RJxfd54e TJxfd54e 0
theorem nmJxfd54e : ∀ a, a < 0 → ∀ b, b < 0 → a ≠ b → (TJxfd54e a).2.1 ≠ (TJxfd54e b).2.1 := by decide +kernel
theorem tyJxfd54e_ok : ∀ k, k < 0 → parseFieldDescriptor (TJxfd54e k).2.2.1 = some (tyJxfd54e k) := by decide +kernel
def RJx3cf43 : String := "java/lang/constant/ConstantDesc"
def TJx3cf43 : u_T := fun k => match k with
  | _ => ("", "", "", false)
def tyJx3cf43 : Nat → FieldType := fun k => match k with
  | _ => .int
abbrev wsJx3cf430 : List Cond := u_ws RJx3cf43 TJx3cf43 0
theorem nmJx3cf43 : ∀ a, a < 0 → ∀ b, b < 0 → a ≠ b → (TJx3cf43 a).2.1 ≠ (TJx3cf43 b).2.1 := by decide +kernel
theorem tyJx3cf43_ok : ∀ k, k < 0 → parseFieldDescriptor (TJx3cf43 k).2.2.1 = some (tyJx3cf43 k) := by decide +kernel
def RJ7 : String := "java/util/Arrays"
def TJ7 : u_T := fun k => match k with
  | _ => ("", "", "", false)
def tyJ7 : Nat → FieldType := fun k => match k with
  | _ => .int
abbrev wsJ70 : List Cond := u_ws RJ7 TJ7 0
theorem nmJ7 : ∀ a, a < 0 → ∀ b, b < 0 → a ≠ b → (TJ7 a).2.1 ≠ (TJ7 b).2.1 := by decide +kernel
theorem tyJ7_ok : ∀ k, k < 0 → parseFieldDescriptor (TJ7 k).2.2.1 = some (tyJ7 k) := by decide +kernel
abbrev cJ7_rangeCheck_23922 : ByteArray := prog_38_method_30_code
def yJ7_rangeCheck_23922 : MethodName := ⟨RJ7, "rangeCheck", "(III)V"⟩
abbrev cJ7_fill_eb02e : ByteArray := prog_38_method_110_code
def yJ7_fill_eb02e : MethodName := ⟨RJ7, "fill", "([BIIB)V"⟩
abbrev cJ7_copyOf_9075b : ByteArray := prog_38_method_121_code
def yJ7_copyOf_9075b : MethodName := ⟨RJ7, "copyOf", "([BI)[B"⟩
abbrev cJ7_checkLength_df160 : ByteArray := prog_38_method_131_code
def yJ7_checkLength_df160 : MethodName := ⟨RJ7, "checkLength", "(II)V"⟩
abbrev cJ7_copyOfRange_39247 : ByteArray := prog_38_method_132_code
def yJ7_copyOfRange_39247 : MethodName := ⟨RJ7, "copyOfRange", "([BII)[B"⟩
abbrev cJ7_copyOfRangeByte_39247 : ByteArray := prog_38_method_133_code
def yJ7_copyOfRangeByte_39247 : MethodName := ⟨RJ7, "copyOfRangeByte", "([BII)[B"⟩
def RJ8 : String := "jdk/internal/util/ArraysSupport"
def TJ8 : u_T := fun k => match k with
  | _ => ("", "", "", false)
def tyJ8 : Nat → FieldType := fun k => match k with
  | _ => .int
abbrev wsJ80 : List Cond := u_ws RJ8 TJ8 0
theorem nmJ8 : ∀ a, a < 0 → ∀ b, b < 0 → a ≠ b → (TJ8 a).2.1 ≠ (TJ8 b).2.1 := by decide +kernel
theorem tyJ8_ok : ∀ k, k < 0 → parseFieldDescriptor (TJ8 k).2.2.1 = some (tyJ8 k) := by decide +kernel
abbrev cJ8_newLength_cabcc : ByteArray := prog_40_method_27_code
def yJ8_newLength_cabcc : MethodName := ⟨RJ8, "newLength", "(III)I"⟩
abbrev cJ8_hugeLength_7cf53 : ByteArray := prog_40_method_28_code
def yJ8_hugeLength_7cf53 : MethodName := ⟨RJ8, "hugeLength", "(II)I"⟩
def RJ3 : String := "jdk/internal/util/Preconditions"
def TJ3 : u_T := fun k => match k with
  | _ => ("", "", "", false)
def tyJ3 : Nat → FieldType := fun k => match k with
  | _ => .int
abbrev wsJ30 : List Cond := u_ws RJ3 TJ3 0
theorem nmJ3 : ∀ a, a < 0 → ∀ b, b < 0 → a ≠ b → (TJ3 a).2.1 ≠ (TJ3 b).2.1 := by decide +kernel
theorem tyJ3_ok : ∀ k, k < 0 → parseFieldDescriptor (TJ3 k).2.2.1 = some (tyJ3 k) := by decide +kernel
abbrev cJ3_checkIndex_8e157 : ByteArray := prog_41_method_11_code
def yJ3_checkIndex_8e157 : MethodName := ⟨RJ3, "checkIndex", "(IILjava/util/function/BiFunction;)I"⟩
abbrev cJ3_checkFromToIndex_8c36e : ByteArray := prog_41_method_12_code
def yJ3_checkFromToIndex_8c36e : MethodName := ⟨RJ3, "checkFromToIndex", "(IIILjava/util/function/BiFunction;)I"⟩
abbrev cJ3_checkFromIndexSize_8c36e : ByteArray := prog_41_method_13_code
def yJ3_checkFromIndexSize_8c36e : MethodName := ⟨RJ3, "checkFromIndexSize", "(IIILjava/util/function/BiFunction;)I"⟩
def RL : String := "MirrorJuryLaw"
abbrev cL_cell : ByteArray := method_2_code
def yL_cell : MethodName := ⟨RL, "cell", "([II)I"⟩
abbrev cL_addCat : ByteArray := method_3_code
def yL_addCat : MethodName := ⟨RL, "addCat", "(LMirrorJury;ICCC)I"⟩
abbrev cL_setMirror : ByteArray := method_4_code
def yL_setMirror : MethodName := ⟨RL, "setMirror", "(LMirrorJury;IC)I"⟩
abbrev cL_catIn : ByteArray := method_5_code
def yL_catIn : MethodName := ⟨RL, "catIn", "(LMirrorJury;I)I"⟩
abbrev cL_rayEnd : ByteArray := method_6_code
def yL_rayEnd : MethodName := ⟨RL, "rayEnd", "(LMirrorJury;I)I"⟩
abbrev cL_rayEndByJoining : ByteArray := method_7_code
def yL_rayEndByJoining : MethodName := ⟨RL, "rayEndByJoining", "(LMirrorJury;I)I"⟩
abbrev cL_rayCat : ByteArray := method_8_code
def yL_rayCat : MethodName := ⟨RL, "rayCat", "(LMirrorJury;I)I"⟩
abbrev cL_leastEffort : ByteArray := method_9_code
def yL_leastEffort : MethodName := ⟨RL, "leastEffort", "(LMirrorJury;II)I"⟩
abbrev cL_leastEffortByRounds : ByteArray := method_10_code
def yL_leastEffortByRounds : MethodName := ⟨RL, "leastEffortByRounds", "(LMirrorJury;II)I"⟩
abbrev cL_portByLength : ByteArray := method_11_code
def yL_portByLength : MethodName := ⟨RL, "portByLength", "(LMirrorJury;I)I"⟩
abbrev cL_testify : ByteArray := method_12_code
def yL_testify : MethodName := ⟨RL, "testify", "(LMirrorJury;IC)I"⟩
abbrev cL_retry : ByteArray := method_13_code
def yL_retry : MethodName := ⟨RL, "retry", "(LMirrorJury;)I"⟩
abbrev cL_catByHeard : ByteArray := method_14_code
def yL_catByHeard : MethodName := ⟨RL, "catByHeard", "(LMirrorJury;I)I"⟩
abbrev cL_execute : ByteArray := method_15_code
def yL_execute : MethodName := ⟨RL, "execute", "(LMirrorJury;)I"⟩
abbrev cL_undo : ByteArray := method_16_code
def yL_undo : MethodName := ⟨RL, "undo", "(LMirrorJury;)I"⟩
abbrev cL_restoreSnapshot : ByteArray := method_17_code
def yL_restoreSnapshot : MethodName := ⟨RL, "restoreSnapshot", "(LMirrorJury;)I"⟩
abbrev cL_deliberate : ByteArray := method_18_code
def yL_deliberate : MethodName := ⟨RL, "deliberate", "(LMirrorJury;)I"⟩
abbrev cL_setMethod : ByteArray := method_19_code
def yL_setMethod : MethodName := ⟨RL, "setMethod", "(LMirrorJury;C)I"⟩
abbrev cL_verdictAt : ByteArray := method_20_code
def yL_verdictAt : MethodName := ⟨RL, "verdictAt", "(LMirrorJury;I)I"⟩
abbrev cL_winner : ByteArray := method_21_code
def yL_winner : MethodName := ⟨RL, "winner", "(LMirrorJury;I)I"⟩
abbrev cL_in : ByteArray := method_22_code
def yL_in : MethodName := ⟨RL, "in", "([III)I"⟩
abbrev cL_does : ByteArray := method_23_code
def yL_does : MethodName := ⟨RL, "does", "(LMirrorJury;Ljava/lang/String;)I"⟩
abbrev cL_adds : ByteArray := method_24_code
def yL_adds : MethodName := ⟨RL, "adds", "(LMirrorJury;II)I"⟩
abbrev cL_begun : ByteArray := method_25_code
def yL_begun : MethodName := ⟨RL, "begun", "([I)LMirrorJury;"⟩
abbrev cL_acts : ByteArray := method_26_code
def yL_acts : MethodName := ⟨RL, "acts", "(LMirrorJury;[II)I"⟩
abbrev cL_seen : ByteArray := method_27_code
def yL_seen : MethodName := ⟨RL, "seen", "(LMirrorJury;)[I"⟩
abbrev cL_areAlike : ByteArray := method_28_code
def yL_areAlike : MethodName := ⟨RL, "areAlike", "([I[I)Z"⟩
abbrev cL_likes : ByteArray := method_29_code
def yL_likes : MethodName := ⟨RL, "likes", "(LMirrorJury;CC)I"⟩
abbrev cL_isWell : ByteArray := method_30_code
def yL_isWell : MethodName := ⟨RL, "isWell", "(LMirrorJury;)Z"⟩
abbrev cL_law : ByteArray := code
def yL_law : MethodName := ⟨RL, "law", "([I)Z"⟩
