def RX0 : String := "DiscYard$Board"
def TX0 : u_T := fun k => match k with
  | 0 => ("DiscYard$Board", "pegs", "I", false)
  | 1 => ("DiscYard$Board", "discs", "I", false)
  | 2 => ("DiscYard$Board", "stands", "I", false)
  | 3 => ("DiscYard$Board", "weights", "[I", true)
  | 4 => ("DiscYard$Board", "kinds", "[I", true)
  | 5 => ("DiscYard$Board", "costs", "[I", true)
  | _ => ("DiscYard$Board", "strong", "[Z", true)
def tyX0 : Nat → FieldType := fun k => match k with
  | 0 => .int
  | 1 => .int
  | 2 => .int
  | 3 => .array .int
  | 4 => .array .int
  | 5 => .array .int
  | _ => .array .boolean
abbrev wsX00 : List Cond := u_ws RX0 TX0 7
theorem nmX0 : ∀ a, a < 7 → ∀ b, b < 7 → a ≠ b → (TX0 a).2.1 ≠ (TX0 b).2.1 := by decide +kernel
theorem tyX0_ok : ∀ k, k < 7 → parseFieldDescriptor (TX0 k).2.2.1 = some (tyX0 k) := by decide +kernel
abbrev cX0_init : ByteArray := prog_2_method_1_code
def yX0_init : MethodName := ⟨RX0, "<init>", "()V"⟩
abbrev cX0_begin : ByteArray := prog_2_method_2_code
def yX0_begin : MethodName := ⟨RX0, "begin", "(II)V"⟩
abbrev cX0_isPeg : ByteArray := prog_2_method_3_code
def yX0_isPeg : MethodName := ⟨RX0, "isPeg", "(I)Z"⟩
abbrev cX0_isDisc : ByteArray := prog_2_method_4_code
def yX0_isDisc : MethodName := ⟨RX0, "isDisc", "(I)Z"⟩
abbrev cX0_setLane : ByteArray := prog_2_method_5_code
def yX0_setLane : MethodName := ⟨RX0, "setLane", "(IIIZ)V"⟩
abbrev cX0_openAll : ByteArray := prog_2_method_6_code
def yX0_openAll : MethodName := ⟨RX0, "openAll", "()V"⟩
abbrev cX0_countLanes : ByteArray := prog_2_method_7_code
def yX0_countLanes : MethodName := ⟨RX0, "countLanes", "()I"⟩
abbrev cX0_turnLanes : ByteArray := prog_2_method_8_code
def yX0_turnLanes : MethodName := ⟨RX0, "turnLanes", "()V"⟩
abbrev cX0_renameLanes : ByteArray := prog_2_method_9_code
def yX0_renameLanes : MethodName := ⟨RX0, "renameLanes", "([I)V"⟩
abbrev cX0_sumOfKinds : ByteArray := prog_2_method_10_code
def yX0_sumOfKinds : MethodName := ⟨RX0, "sumOfKinds", "()I"⟩
def RX1 : String := "DiscYard$Book"
def TX1 : u_T := fun k => match k with
  | 0 => ("DiscYard$Book", "lengths", "[I", true)
  | 1 => ("DiscYard$Book", "called", "[I", true)
  | 2 => ("DiscYard$Book", "less", "[I", true)
  | 3 => ("DiscYard$Book", "roles", "[I", true)
  | 4 => ("DiscYard$Book", "tallies", "[J", true)
  | _ => ("DiscYard$Book", "made", "I", false)
def tyX1 : Nat → FieldType := fun k => match k with
  | 0 => .array .int
  | 1 => .array .int
  | 2 => .array .int
  | 3 => .array .int
  | 4 => .array .long
  | _ => .int
abbrev wsX10 : List Cond := u_ws RX1 TX1 6
theorem nmX1 : ∀ a, a < 6 → ∀ b, b < 6 → a ≠ b → (TX1 a).2.1 ≠ (TX1 b).2.1 := by decide +kernel
theorem tyX1_ok : ∀ k, k < 6 → parseFieldDescriptor (TX1 k).2.2.1 = some (tyX1 k) := by decide +kernel
abbrev cX1_init : ByteArray := prog_3_method_1_code
def yX1_init : MethodName := ⟨RX1, "<init>", "()V"⟩
abbrev cX1_has : ByteArray := prog_3_method_2_code
def yX1_has : MethodName := ⟨RX1, "has", "(I)Z"⟩
abbrev cX1_isFull : ByteArray := prog_3_method_3_code
def yX1_isFull : MethodName := ⟨RX1, "isFull", "(I)Z"⟩
abbrev cX1_open : ByteArray := prog_3_method_4_code
def yX1_open : MethodName := ⟨RX1, "open", "()I"⟩
abbrev cX1_append : ByteArray := prog_3_method_5_code
def yX1_append : MethodName := ⟨RX1, "append", "(III[I)I"⟩
abbrev cX1_tally : ByteArray := prog_3_method_6_code
def yX1_tally : MethodName := ⟨RX1, "tally", "(II)J"⟩
abbrev cX1_sumOfSteps : ByteArray := prog_3_method_7_code
def yX1_sumOfSteps : MethodName := ⟨RX1, "sumOfSteps", "(II)J"⟩
def RX2 : String := "DiscYard$Knots"
def TX2 : u_T := fun k => match k with
  | 0 => ("DiscYard$Knots", "marks", "[I", false)
  | 1 => ("DiscYard$Knots", "lows", "[I", false)
  | 2 => ("DiscYard$Knots", "places", "[I", false)
  | 3 => ("DiscYard$Knots", "path", "[I", false)
  | 4 => ("DiscYard$Knots", "pile", "[I", false)
  | 5 => ("DiscYard$Knots", "setOf", "[I", false)
  | 6 => ("DiscYard$Knots", "sizes", "[I", false)
  | 7 => ("DiscYard$Knots", "leaves", "[I", false)
  | 8 => ("DiscYard$Knots", "marked", "I", false)
  | 9 => ("DiscYard$Knots", "depth", "I", false)
  | 10 => ("DiscYard$Knots", "piled", "I", false)
  | 11 => ("DiscYard$Knots", "found", "Z", false)
  | _ => ("DiscYard$Knots", "sets", "I", false)
def tyX2 : Nat → FieldType := fun k => match k with
  | 0 => .array .int
  | 1 => .array .int
  | 2 => .array .int
  | 3 => .array .int
  | 4 => .array .int
  | 5 => .array .int
  | 6 => .array .int
  | 7 => .array .int
  | 8 => .int
  | 9 => .int
  | 10 => .int
  | 11 => .boolean
  | _ => .int
abbrev wsX20 : List Cond := u_ws RX2 TX2 13
theorem nmX2 : ∀ a, a < 13 → ∀ b, b < 13 → a ≠ b → (TX2 a).2.1 ≠ (TX2 b).2.1 := by decide +kernel
theorem tyX2_ok : ∀ k, k < 13 → parseFieldDescriptor (TX2 k).2.2.1 = some (tyX2 k) := by decide +kernel
abbrev cX2_init : ByteArray := prog_4_method_1_code
def yX2_init : MethodName := ⟨RX2, "<init>", "()V"⟩
abbrev cX2_forget : ByteArray := prog_4_method_2_code
def yX2_forget : MethodName := ⟨RX2, "forget", "()V"⟩
abbrev cX2_find : ByteArray := prog_4_method_3_code
def yX2_find : MethodName := ⟨RX2, "find", "(LDiscYard$Board;LDiscYard$Look;)V"⟩
abbrev cX2_prepare : ByteArray := prog_4_method_4_code
def yX2_prepare : MethodName := ⟨RX2, "prepare", "(I)V"⟩
abbrev cX2_walk : ByteArray := prog_4_method_5_code
def yX2_walk : MethodName := ⟨RX2, "walk", "(LDiscYard$Board;LDiscYard$Look;I)V"⟩
abbrev cX2_enter : ByteArray := prog_4_method_6_code
def yX2_enter : MethodName := ⟨RX2, "enter", "(I)V"⟩
abbrev cX2_nextUnseen : ByteArray := prog_4_method_7_code
def yX2_nextUnseen : MethodName := ⟨RX2, "nextUnseen", "(LDiscYard$Board;LDiscYard$Look;I)I"⟩
abbrev cX2_leave : ByteArray := prog_4_method_8_code
def yX2_leave : MethodName := ⟨RX2, "leave", "(I)V"⟩
abbrev cX2_seekWayOut : ByteArray := prog_4_method_9_code
def yX2_seekWayOut : MethodName := ⟨RX2, "seekWayOut", "(LDiscYard$Board;LDiscYard$Look;I)V"⟩
abbrev cX2_sizeOfSet : ByteArray := prog_4_method_10_code
def yX2_sizeOfSet : MethodName := ⟨RX2, "sizeOfSet", "(I)I"⟩
abbrev cX2_countClosed : ByteArray := prog_4_method_11_code
def yX2_countClosed : MethodName := ⟨RX2, "countClosed", "()I"⟩
abbrev cX2_greatestSize : ByteArray := prog_4_method_12_code
def yX2_greatestSize : MethodName := ⟨RX2, "greatestSize", "()I"⟩
def RX3 : String := "DiscYard$Look"
def TX3 : u_T := fun k => match k with
  | 0 => ("DiscYard$Look", "pegOf", "[I", true)
  | 1 => ("DiscYard$Look", "tops", "[I", true)
  | 2 => ("DiscYard$Look", "bases", "[I", true)
  | 3 => ("DiscYard$Look", "loads", "[I", true)
  | 4 => ("DiscYard$Look", "codes", "[I", true)
  | 5 => ("DiscYard$Look", "targets", "[I", true)
  | 6 => ("DiscYard$Look", "prices", "[I", true)
  | 7 => ("DiscYard$Look", "found", "I", false)
  | 8 => ("DiscYard$Look", "standRead", "I", false)
  | _ => ("DiscYard$Look", "right", "Z", false)
def tyX3 : Nat → FieldType := fun k => match k with
  | 0 => .array .int
  | 1 => .array .int
  | 2 => .array .int
  | 3 => .array .int
  | 4 => .array .int
  | 5 => .array .int
  | 6 => .array .int
  | 7 => .int
  | 8 => .int
  | _ => .boolean
abbrev wsX30 : List Cond := u_ws RX3 TX3 10
theorem nmX3 : ∀ a, a < 10 → ∀ b, b < 10 → a ≠ b → (TX3 a).2.1 ≠ (TX3 b).2.1 := by decide +kernel
theorem tyX3_ok : ∀ k, k < 10 → parseFieldDescriptor (TX3 k).2.2.1 = some (tyX3 k) := by decide +kernel
abbrev cX3_init : ByteArray := prog_5_method_1_code
def yX3_init : MethodName := ⟨RX3, "<init>", "()V"⟩
abbrev cX3_read : ByteArray := prog_5_method_2_code
def yX3_read : MethodName := ⟨RX3, "read", "(LDiscYard$Board;I)V"⟩
abbrev cX3_lay : ByteArray := prog_5_method_3_code
def yX3_lay : MethodName := ⟨RX3, "lay", "(LDiscYard$Board;II)V"⟩
abbrev cX3_hindrance : ByteArray := prog_5_method_4_code
def yX3_hindrance : MethodName := ⟨RX3, "hindrance", "(LDiscYard$Board;II)I"⟩
abbrev cX3_landing : ByteArray := prog_5_method_5_code
def yX3_landing : MethodName := ⟨RX3, "landing", "(II)I"⟩
abbrev cX3_packSize : ByteArray := prog_5_method_6_code
def yX3_packSize : MethodName := ⟨RX3, "packSize", "(I)I"⟩
abbrev cX3_spread : ByteArray := prog_5_method_7_code
def yX3_spread : MethodName := ⟨RX3, "spread", "(LDiscYard$Board;)V"⟩
def RX4 : String := "DiscYard$Past"
def TX4 : u_T := fun k => match k with
  | 0 => ("DiscYard$Past", "earlier", "[I", true)
  | 1 => ("DiscYard$Past", "later", "[I", true)
  | 2 => ("DiscYard$Past", "done", "I", false)
  | _ => ("DiscYard$Past", "undone", "I", false)
def tyX4 : Nat → FieldType := fun k => match k with
  | 0 => .array .int
  | 1 => .array .int
  | 2 => .int
  | _ => .int
abbrev wsX40 : List Cond := u_ws RX4 TX4 4
theorem nmX4 : ∀ a, a < 4 → ∀ b, b < 4 → a ≠ b → (TX4 a).2.1 ≠ (TX4 b).2.1 := by decide +kernel
theorem tyX4_ok : ∀ k, k < 4 → parseFieldDescriptor (TX4 k).2.2.1 = some (tyX4 k) := by decide +kernel
abbrev cX4_init : ByteArray := prog_6_method_1_code
def yX4_init : MethodName := ⟨RX4, "<init>", "()V"⟩
abbrev cX4_forget : ByteArray := prog_6_method_2_code
def yX4_forget : MethodName := ⟨RX4, "forget", "()V"⟩
abbrev cX4_keep : ByteArray := prog_6_method_3_code
def yX4_keep : MethodName := ⟨RX4, "keep", "(I)V"⟩
abbrev cX4_stepBack : ByteArray := prog_6_method_4_code
def yX4_stepBack : MethodName := ⟨RX4, "stepBack", "(I)I"⟩
abbrev cX4_stepOn : ByteArray := prog_6_method_5_code
def yX4_stepOn : MethodName := ⟨RX4, "stepOn", "(I)I"⟩
def RX5 : String := "DiscYard$Plan"
def TX5 : u_T := fun k => match k with
  | 0 => ("DiscYard$Plan", "codes", "[I", false)
  | _ => ("DiscYard$Plan", "length", "I", false)
def tyX5 : Nat → FieldType := fun k => match k with
  | 0 => .array .int
  | _ => .int
abbrev wsX50 : List Cond := u_ws RX5 TX5 2
theorem nmX5 : ∀ a, a < 2 → ∀ b, b < 2 → a ≠ b → (TX5 a).2.1 ≠ (TX5 b).2.1 := by decide +kernel
theorem tyX5_ok : ∀ k, k < 2 → parseFieldDescriptor (TX5 k).2.2.1 = some (tyX5 k) := by decide +kernel
abbrev cX5_init : ByteArray := prog_7_method_1_code
def yX5_init : MethodName := ⟨RX5, "<init>", "()V"⟩
abbrev cX5_add : ByteArray := prog_7_method_2_code
def yX5_add : MethodName := ⟨RX5, "add", "(I)V"⟩
def RX6 : String := "DiscYard$Search"
def TX6 : u_T := fun k => match k with
  | 0 => ("DiscYard$Search", "heads", "[I", true)
  | 1 => ("DiscYard$Search", "costs", "[I", false)
  | 2 => ("DiscYard$Search", "rows", "[J", false)
  | 3 => ("DiscYard$Search", "order", "[I", false)
  | 4 => ("DiscYard$Search", "after", "[I", false)
  | 5 => ("DiscYard$Search", "before", "[I", false)
  | 6 => ("DiscYard$Search", "leads", "[I", false)
  | 7 => ("DiscYard$Search", "start", "I", false)
  | _ => ("DiscYard$Search", "settled", "I", false)
def tyX6 : Nat → FieldType := fun k => match k with
  | 0 => .array .int
  | 1 => .array .int
  | 2 => .array .long
  | 3 => .array .int
  | 4 => .array .int
  | 5 => .array .int
  | 6 => .array .int
  | 7 => .int
  | _ => .int
abbrev wsX60 : List Cond := u_ws RX6 TX6 9
theorem nmX6 : ∀ a, a < 9 → ∀ b, b < 9 → a ≠ b → (TX6 a).2.1 ≠ (TX6 b).2.1 := by decide +kernel
theorem tyX6_ok : ∀ k, k < 9 → parseFieldDescriptor (TX6 k).2.2.1 = some (tyX6 k) := by decide +kernel
abbrev cX6_init : ByteArray := prog_8_method_1_code
def yX6_init : MethodName := ⟨RX6, "<init>", "()V"⟩
abbrev cX6_forget : ByteArray := prog_8_method_2_code
def yX6_forget : MethodName := ⟨RX6, "forget", "()V"⟩
abbrev cX6_from : ByteArray := prog_8_method_3_code
def yX6_from : MethodName := ⟨RX6, "from", "(LDiscYard$Board;LDiscYard$Look;I)V"⟩
abbrev cX6_prepare : ByteArray := prog_8_method_4_code
def yX6_prepare : MethodName := ⟨RX6, "prepare", "(I)V"⟩
abbrev cX6_slotFrom : ByteArray := prog_8_method_5_code
def yX6_slotFrom : MethodName := ⟨RX6, "slotFrom", "(I)I"⟩
abbrev cX6_offer : ByteArray := prog_8_method_6_code
def yX6_offer : MethodName := ⟨RX6, "offer", "(IIJ)V"⟩
abbrev cX6_putIn : ByteArray := prog_8_method_7_code
def yX6_putIn : MethodName := ⟨RX6, "putIn", "(I)V"⟩
abbrev cX6_takeOut : ByteArray := prog_8_method_8_code
def yX6_takeOut : MethodName := ⟨RX6, "takeOut", "(I)V"⟩
abbrev cX6_costTo : ByteArray := prog_8_method_9_code
def yX6_costTo : MethodName := ⟨RX6, "costTo", "(I)I"⟩
abbrev cX6_rowsTo : ByteArray := prog_8_method_10_code
def yX6_rowsTo : MethodName := ⟨RX6, "rowsTo", "(I)J"⟩
abbrev cX6_greatestCost : ByteArray := prog_8_method_11_code
def yX6_greatestCost : MethodName := ⟨RX6, "greatestCost", "()I"⟩
abbrev cX6_leastOfFarthest : ByteArray := prog_8_method_12_code
def yX6_leastOfFarthest : MethodName := ⟨RX6, "leastOfFarthest", "()I"⟩
abbrev cX6_writePlan : ByteArray := prog_8_method_13_code
def yX6_writePlan : MethodName := ⟨RX6, "writePlan", "(LDiscYard$Board;LDiscYard$Look;ILDiscYard$Plan;)V"⟩
abbrev cX6_markLeading : ByteArray := prog_8_method_14_code
def yX6_markLeading : MethodName := ⟨RX6, "markLeading", "(LDiscYard$Board;LDiscYard$Look;I)V"⟩
abbrev cX6_firstLeading : ByteArray := prog_8_method_15_code
def yX6_firstLeading : MethodName := ⟨RX6, "firstLeading", "(LDiscYard$Board;LDiscYard$Look;I)I"⟩
def RX7 : String := "DiscYard$Trial"
def TX7 : u_T := fun k => match k with
  | 0 => ("DiscYard$Trial", "pegs", "[[I", true)
  | 1 => ("DiscYard$Trial", "begun", "I", false)
  | 2 => ("DiscYard$Trial", "done", "I", false)
  | 3 => ("DiscYard$Trial", "standing", "I", false)
  | _ => ("DiscYard$Trial", "failedAt", "I", false)
def tyX7 : Nat → FieldType := fun k => match k with
  | 0 => .array (.array .int)
  | 1 => .int
  | 2 => .int
  | 3 => .int
  | _ => .int
abbrev wsX70 : List Cond := u_ws RX7 TX7 5
theorem nmX7 : ∀ a, a < 5 → ∀ b, b < 5 → a ≠ b → (TX7 a).2.1 ≠ (TX7 b).2.1 := by decide +kernel
theorem tyX7_ok : ∀ k, k < 5 → parseFieldDescriptor (TX7 k).2.2.1 = some (tyX7 k) := by decide +kernel
abbrev cX7_init : ByteArray := prog_9_method_1_code
def yX7_init : MethodName := ⟨RX7, "<init>", "()V"⟩
abbrev cX7_prepare : ByteArray := prog_9_method_2_code
def yX7_prepare : MethodName := ⟨RX7, "prepare", "(LDiscYard$Board;[I)V"⟩
abbrev cX7_run : ByteArray := prog_9_method_3_code
def yX7_run : MethodName := ⟨RX7, "run", "(LDiscYard$Board;LDiscYard$Look;LDiscYard$Book;II)I"⟩
abbrev cX7_perform : ByteArray := prog_9_method_4_code
def yX7_perform : MethodName := ⟨RX7, "perform", "(LDiscYard$Board;LDiscYard$Look;LDiscYard$Book;III)I"⟩
abbrev cX7_castRoles : ByteArray := prog_9_method_5_code
def yX7_castRoles : MethodName := ⟨RX7, "castRoles", "(LDiscYard$Book;II)V"⟩
abbrev cX7_shift : ByteArray := prog_9_method_6_code
def yX7_shift : MethodName := ⟨RX7, "shift", "(LDiscYard$Board;LDiscYard$Look;III)I"⟩
def RX8 : String := "DiscYard"
def TX8 : u_T := fun k => match k with
  | 0 => ("DiscYard", "board", "LDiscYard$Board;", true)
  | 1 => ("DiscYard", "look", "LDiscYard$Look;", true)
  | 2 => ("DiscYard", "past", "LDiscYard$Past;", true)
  | 3 => ("DiscYard", "thePlan", "LDiscYard$Plan;", true)
  | 4 => ("DiscYard", "search", "LDiscYard$Search;", true)
  | 5 => ("DiscYard", "knots", "LDiscYard$Knots;", true)
  | 6 => ("DiscYard", "book", "LDiscYard$Book;", true)
  | 7 => ("DiscYard", "trial", "LDiscYard$Trial;", true)
  | 8 => ("DiscYard", "standing", "I", false)
  | 9 => ("DiscYard", "wanted", "I", false)
  | _ => ("DiscYard", "lastTrouble", "I", false)
def tyX8 : Nat → FieldType := fun k => match k with
  | 0 => .object "DiscYard$Board"
  | 1 => .object "DiscYard$Look"
  | 2 => .object "DiscYard$Past"
  | 3 => .object "DiscYard$Plan"
  | 4 => .object "DiscYard$Search"
  | 5 => .object "DiscYard$Knots"
  | 6 => .object "DiscYard$Book"
  | 7 => .object "DiscYard$Trial"
  | 8 => .int
  | 9 => .int
  | _ => .int
abbrev wsX80 : List Cond := u_ws RX8 TX8 11
theorem nmX8 : ∀ a, a < 11 → ∀ b, b < 11 → a ≠ b → (TX8 a).2.1 ≠ (TX8 b).2.1 := by decide +kernel
theorem tyX8_ok : ∀ k, k < 11 → parseFieldDescriptor (TX8 k).2.2.1 = some (tyX8 k) := by decide +kernel
abbrev cX8_init : ByteArray := prog_1_method_1_code
def yX8_init : MethodName := ⟨RX8, "<init>", "()V"⟩
abbrev cX8_yard : ByteArray := prog_1_method_2_code
def yX8_yard : MethodName := ⟨RX8, "yard", "(II)Z"⟩
abbrev cX8_kind : ByteArray := prog_1_method_3_code
def yX8_kind : MethodName := ⟨RX8, "kind", "(II)Z"⟩
abbrev cX8_lane : ByteArray := prog_1_method_4_code
def yX8_lane : MethodName := ⟨RX8, "lane", "(IIIZ)Z"⟩
abbrev cX8_lanes : ByteArray := prog_1_method_5_code
def yX8_lanes : MethodName := ⟨RX8, "lanes", "()I"⟩
abbrev cX8_cost : ByteArray := prog_1_method_6_code
def yX8_cost : MethodName := ⟨RX8, "cost", "(II)I"⟩
abbrev cX8_stand : ByteArray := prog_1_method_7_code
def yX8_stand : MethodName := ⟨RX8, "stand", "(IZ)Z"⟩
abbrev cX8_number : ByteArray := prog_1_method_8_code
def yX8_number : MethodName := ⟨RX8, "number", "(Z)I"⟩
abbrev cX8_peg : ByteArray := prog_1_method_9_code
def yX8_peg : MethodName := ⟨RX8, "peg", "(I)I"⟩
abbrev cX8_disc : ByteArray := prog_1_method_10_code
def yX8_disc : MethodName := ⟨RX8, "disc", "(II)I"⟩
abbrev cX8_why : ByteArray := prog_1_method_11_code
def yX8_why : MethodName := ⟨RX8, "why", "(II)I"⟩
abbrev cX8_move : ByteArray := prog_1_method_12_code
def yX8_move : MethodName := ⟨RX8, "move", "(II)I"⟩
abbrev cX8_undo : ByteArray := prog_1_method_13_code
def yX8_undo : MethodName := ⟨RX8, "undo", "()I"⟩
abbrev cX8_redo : ByteArray := prog_1_method_14_code
def yX8_redo : MethodName := ⟨RX8, "redo", "()I"⟩
abbrev cX8_moves : ByteArray := prog_1_method_15_code
def yX8_moves : MethodName := ⟨RX8, "moves", "()I"⟩
abbrev cX8_fewest : ByteArray := prog_1_method_16_code
def yX8_fewest : MethodName := ⟨RX8, "fewest", "()I"⟩
abbrev cX8_plan : ByteArray := prog_1_method_17_code
def yX8_plan : MethodName := ⟨RX8, "plan", "()I"⟩
abbrev cX8_planned : ByteArray := prog_1_method_18_code
def yX8_planned : MethodName := ⟨RX8, "planned", "(I)I"⟩
abbrev cX8_ways : ByteArray := prog_1_method_19_code
def yX8_ways : MethodName := ⟨RX8, "ways", "()J"⟩
abbrev cX8_reach : ByteArray := prog_1_method_20_code
def yX8_reach : MethodName := ⟨RX8, "reach", "()I"⟩
abbrev cX8_far : ByteArray := prog_1_method_21_code
def yX8_far : MethodName := ⟨RX8, "far", "()I"⟩
abbrev cX8_farthest : ByteArray := prog_1_method_22_code
def yX8_farthest : MethodName := ⟨RX8, "farthest", "()I"⟩
abbrev cX8_joined : ByteArray := prog_1_method_23_code
def yX8_joined : MethodName := ⟨RX8, "joined", "(I)I"⟩
abbrev cX8_rename : ByteArray := prog_1_method_24_code
def yX8_rename : MethodName := ⟨RX8, "rename", "(IIIII)Z"⟩
abbrev cX8_about : ByteArray := prog_1_method_25_code
def yX8_about : MethodName := ⟨RX8, "about", "()I"⟩
abbrev cX8_scheme : ByteArray := prog_1_method_26_code
def yX8_scheme : MethodName := ⟨RX8, "scheme", "()I"⟩
abbrev cX8_single : ByteArray := prog_1_method_27_code
def yX8_single : MethodName := ⟨RX8, "single", "(III)I"⟩
abbrev cX8_call : ByteArray := prog_1_method_28_code
def yX8_call : MethodName := ⟨RX8, "call", "(IIIIIIII)I"⟩
abbrev cX8_count : ByteArray := prog_1_method_29_code
def yX8_count : MethodName := ⟨RX8, "count", "(II)J"⟩
abbrev cX8_tried : ByteArray := prog_1_method_30_code
def yX8_tried : MethodName := ⟨RX8, "tried", "(IIIIIII)I"⟩
abbrev cX8_failed : ByteArray := prog_1_method_31_code
def yX8_failed : MethodName := ⟨RX8, "failed", "()I"⟩
abbrev cX8_trouble : ByteArray := prog_1_method_32_code
def yX8_trouble : MethodName := ⟨RX8, "trouble", "()I"⟩
abbrev cX8_size : ByteArray := prog_1_method_33_code
def yX8_size : MethodName := ⟨RX8, "size", "(I)I"⟩
abbrev cX8_accept : ByteArray := prog_1_method_34_code
def yX8_accept : MethodName := ⟨RX8, "accept", "()Z"⟩
abbrev cX8_refuse : ByteArray := prog_1_method_35_code
def yX8_refuse : MethodName := ⟨RX8, "refuse", "(I)Z"⟩
abbrev cX8_none : ByteArray := prog_1_method_36_code
def yX8_none : MethodName := ⟨RX8, "none", "(I)I"⟩
abbrev cX8_forgetAll : ByteArray := prog_1_method_37_code
def yX8_forgetAll : MethodName := ⟨RX8, "forgetAll", "()V"⟩
abbrev cX8_isRight : ByteArray := prog_1_method_38_code
def yX8_isRight : MethodName := ⟨RX8, "isRight", "(I)Z"⟩
abbrev cX8_searched : ByteArray := prog_1_method_39_code
def yX8_searched : MethodName := ⟨RX8, "searched", "()Z"⟩
abbrev cX8_renamed : ByteArray := prog_1_method_40_code
def yX8_renamed : MethodName := ⟨RX8, "renamed", "(I[I)I"⟩
abbrev cX8_addStep : ByteArray := prog_1_method_41_code
def yX8_addStep : MethodName := ⟨RX8, "addStep", "(III[I)I"⟩
abbrev cX8_isRole : ByteArray := prog_1_method_42_code
def yX8_isRole : MethodName := ⟨RX8, "isRole", "(I)Z"⟩
abbrev cX8_isRearrangement : ByteArray := prog_1_method_43_code
def yX8_isRearrangement : MethodName := ⟨RX8, "isRearrangement", "([II)Z"⟩
def RX9 : String := "DiscYardModel"
def TX9 : u_T := fun k => match k with
  | 0 => ("DiscYardModel", "pegs", "I", false)
  | 1 => ("DiscYardModel", "discs", "I", false)
  | 2 => ("DiscYardModel", "trouble", "I", false)
  | 3 => ("DiscYardModel", "thrown", "I", false)
  | 4 => ("DiscYardModel", "kinds", "[I", true)
  | 5 => ("DiscYardModel", "stand", "[I", true)
  | 6 => ("DiscYardModel", "goal", "[I", true)
  | 7 => ("DiscYardModel", "costs", "[I", true)
  | 8 => ("DiscYardModel", "isStrong", "[Z", true)
  | 9 => ("DiscYardModel", "past", "[I", true)
  | 10 => ("DiscYardModel", "undos", "I", false)
  | 11 => ("DiscYardModel", "redos", "I", false)
  | 12 => ("DiscYardModel", "plan", "[I", true)
  | 13 => ("DiscYardModel", "planned", "I", false)
  | 14 => ("DiscYardModel", "at", "[I", true)
  | 15 => ("DiscYardModel", "next", "[I", true)
  | 16 => ("DiscYardModel", "far", "[I", true)
  | 17 => ("DiscYardModel", "after", "[I", true)
  | 18 => ("DiscYardModel", "before", "[I", true)
  | 19 => ("DiscYardModel", "heads", "[I", true)
  | 20 => ("DiscYardModel", "met", "[I", true)
  | 21 => ("DiscYardModel", "metMany", "I", false)
  | 22 => ("DiscYardModel", "many", "[J", true)
  | 23 => ("DiscYardModel", "isGood", "[Z", true)
  | 24 => ("DiscYardModel", "isDone", "[Z", true)
  | 25 => ("DiscYardModel", "order", "[I", true)
  | 26 => ("DiscYardModel", "lowest", "[I", true)
  | 27 => ("DiscYardModel", "set", "[I", true)
  | 28 => ("DiscYardModel", "walk", "[I", true)
  | 29 => ("DiscYardModel", "pile", "[I", true)
  | 30 => ("DiscYardModel", "move", "[I", true)
  | 31 => ("DiscYardModel", "setSize", "[I", true)
  | 32 => ("DiscYardModel", "leaves", "[Z", true)
  | 33 => ("DiscYardModel", "sets", "I", false)
  | 34 => ("DiscYardModel", "names", "[I", true)
  | 35 => ("DiscYardModel", "spareCosts", "[I", true)
  | 36 => ("DiscYardModel", "spareStrong", "[Z", true)
  | 37 => ("DiscYardModel", "stepMany", "[I", true)
  | 38 => ("DiscYardModel", "stepOf", "[I", true)
  | 39 => ("DiscYardModel", "stepLess", "[I", true)
  | 40 => ("DiscYardModel", "stepRoles", "[I", true)
  | 41 => ("DiscYardModel", "schemes", "I", false)
  | 42 => ("DiscYardModel", "counts", "[J", true)
  | 43 => ("DiscYardModel", "openScheme", "[I", true)
  | 44 => ("DiscYardModel", "openHeight", "[I", true)
  | 45 => ("DiscYardModel", "openStep", "[I", true)
  | 46 => ("DiscYardModel", "openPegs", "[I", true)
  | _ => ("DiscYardModel", "failedMove", "I", false)
def tyX9 : Nat → FieldType := fun k => match k with
  | 0 => .int
  | 1 => .int
  | 2 => .int
  | 3 => .int
  | 4 => .array .int
  | 5 => .array .int
  | 6 => .array .int
  | 7 => .array .int
  | 8 => .array .boolean
  | 9 => .array .int
  | 10 => .int
  | 11 => .int
  | 12 => .array .int
  | 13 => .int
  | 14 => .array .int
  | 15 => .array .int
  | 16 => .array .int
  | 17 => .array .int
  | 18 => .array .int
  | 19 => .array .int
  | 20 => .array .int
  | 21 => .int
  | 22 => .array .long
  | 23 => .array .boolean
  | 24 => .array .boolean
  | 25 => .array .int
  | 26 => .array .int
  | 27 => .array .int
  | 28 => .array .int
  | 29 => .array .int
  | 30 => .array .int
  | 31 => .array .int
  | 32 => .array .boolean
  | 33 => .int
  | 34 => .array .int
  | 35 => .array .int
  | 36 => .array .boolean
  | 37 => .array .int
  | 38 => .array .int
  | 39 => .array .int
  | 40 => .array .int
  | 41 => .int
  | 42 => .array .long
  | 43 => .array .int
  | 44 => .array .int
  | 45 => .array .int
  | 46 => .array .int
  | _ => .int
abbrev wsX90 : List Cond := u_ws RX9 TX9 48
theorem nmX9 : ∀ a, a < 48 → ∀ b, b < 48 → a ≠ b → (TX9 a).2.1 ≠ (TX9 b).2.1 := by decide +kernel
theorem tyX9_ok : ∀ k, k < 48 → parseFieldDescriptor (TX9 k).2.2.1 = some (tyX9 k) := by decide +kernel
abbrev cX9_init : ByteArray := prog_11_method_1_code
def yX9_init : MethodName := ⟨RX9, "<init>", "()V"⟩
abbrev cX9_in : ByteArray := prog_11_method_3_code
def yX9_in : MethodName := ⟨RX9, "in", "(III)Z"⟩
abbrev cX9_no : ByteArray := prog_11_method_4_code
def yX9_no : MethodName := ⟨RX9, "no", "(I)I"⟩
abbrev cX9_not : ByteArray := prog_11_method_5_code
def yX9_not : MethodName := ⟨RX9, "not", "(I)Z"⟩
abbrev cX9_isPeg : ByteArray := prog_11_method_6_code
def yX9_isPeg : MethodName := ⟨RX9, "isPeg", "(I)Z"⟩
abbrev cX9_nothingUndone : ByteArray := prog_11_method_7_code
def yX9_nothingUndone : MethodName := ⟨RX9, "nothingUndone", "()V"⟩
abbrev cX9_unpack : ByteArray := prog_11_method_8_code
def yX9_unpack : MethodName := ⟨RX9, "unpack", "(I[I)V"⟩
abbrev cX9_pack : ByteArray := prog_11_method_9_code
def yX9_pack : MethodName := ⟨RX9, "pack", "([I)I"⟩
abbrev cX9_stands : ByteArray := prog_11_method_10_code
def yX9_stands : MethodName := ⟨RX9, "stands", "()I"⟩
abbrev cX9_below : ByteArray := prog_11_method_11_code
def yX9_below : MethodName := ⟨RX9, "below", "([II)I"⟩
abbrev cX9_top : ByteArray := prog_11_method_12_code
def yX9_top : MethodName := ⟨RX9, "top", "([II)I"⟩
abbrev cX9_isRight : ByteArray := prog_11_method_13_code
def yX9_isRight : MethodName := ⟨RX9, "isRight", "([I)Z"⟩
abbrev cX9_packOf : ByteArray := prog_11_method_14_code
def yX9_packOf : MethodName := ⟨RX9, "packOf", "([II)I"⟩
abbrev cX9_whyOf : ByteArray := prog_11_method_15_code
def yX9_whyOf : MethodName := ⟨RX9, "whyOf", "([III)I"⟩
abbrev cX9_moved : ByteArray := prog_11_method_16_code
def yX9_moved : MethodName := ⟨RX9, "moved", "([III)I"⟩
abbrev cX9_yard : ByteArray := prog_11_method_17_code
def yX9_yard : MethodName := ⟨RX9, "yard", "(II)Z"⟩
abbrev cX9_kind : ByteArray := prog_11_method_18_code
def yX9_kind : MethodName := ⟨RX9, "kind", "(II)Z"⟩
abbrev cX9_lane : ByteArray := prog_11_method_19_code
def yX9_lane : MethodName := ⟨RX9, "lane", "(IIIZ)Z"⟩
abbrev cX9_lanesThere : ByteArray := prog_11_method_20_code
def yX9_lanesThere : MethodName := ⟨RX9, "lanesThere", "()I"⟩
abbrev cX9_lanes : ByteArray := prog_11_method_21_code
def yX9_lanes : MethodName := ⟨RX9, "lanes", "()I"⟩
abbrev cX9_cost : ByteArray := prog_11_method_22_code
def yX9_cost : MethodName := ⟨RX9, "cost", "(II)I"⟩
abbrev cX9_stand : ByteArray := prog_11_method_23_code
def yX9_stand : MethodName := ⟨RX9, "stand", "(IZ)Z"⟩
abbrev cX9_number : ByteArray := prog_11_method_24_code
def yX9_number : MethodName := ⟨RX9, "number", "(Z)I"⟩
abbrev cX9_peg : ByteArray := prog_11_method_25_code
def yX9_peg : MethodName := ⟨RX9, "peg", "(I)I"⟩
abbrev cX9_disc : ByteArray := prog_11_method_26_code
def yX9_disc : MethodName := ⟨RX9, "disc", "(II)I"⟩
abbrev cX9_why : ByteArray := prog_11_method_27_code
def yX9_why : MethodName := ⟨RX9, "why", "(II)I"⟩
abbrev cX9_move : ByteArray := prog_11_method_28_code
def yX9_move : MethodName := ⟨RX9, "move", "(II)I"⟩
abbrev cX9_undo : ByteArray := prog_11_method_29_code
def yX9_undo : MethodName := ⟨RX9, "undo", "()I"⟩
abbrev cX9_redo : ByteArray := prog_11_method_30_code
def yX9_redo : MethodName := ⟨RX9, "redo", "()I"⟩
abbrev cX9_moves : ByteArray := prog_11_method_31_code
def yX9_moves : MethodName := ⟨RX9, "moves", "()I"⟩
abbrev cX9_fits : ByteArray := prog_11_method_32_code
def yX9_fits : MethodName := ⟨RX9, "fits", "()Z"⟩
abbrev cX9_unlink : ByteArray := prog_11_method_33_code
def yX9_unlink : MethodName := ⟨RX9, "unlink", "(I)V"⟩
abbrev cX9_link : ByteArray := prog_11_method_34_code
def yX9_link : MethodName := ⟨RX9, "link", "(II)V"⟩
abbrev cX9_leads : ByteArray := prog_11_method_35_code
def yX9_leads : MethodName := ⟨RX9, "leads", "(II)I"⟩
abbrev cX9_measure : ByteArray := prog_11_method_36_code
def yX9_measure : MethodName := ⟨RX9, "measure", "()V"⟩
abbrev cX9_fewest : ByteArray := prog_11_method_37_code
def yX9_fewest : MethodName := ⟨RX9, "fewest", "()I"⟩
abbrev cX9_isNear : ByteArray := prog_11_method_38_code
def yX9_isNear : MethodName := ⟨RX9, "isNear", "(IIII)Z"⟩
abbrev cX9_plan : ByteArray := prog_11_method_39_code
def yX9_plan : MethodName := ⟨RX9, "plan", "()I"⟩
abbrev cX9_planned : ByteArray := prog_11_method_40_code
def yX9_planned : MethodName := ⟨RX9, "planned", "(I)I"⟩
abbrev cX9_ways : ByteArray := prog_11_method_41_code
def yX9_ways : MethodName := ⟨RX9, "ways", "()J"⟩
abbrev cX9_reach : ByteArray := prog_11_method_42_code
def yX9_reach : MethodName := ⟨RX9, "reach", "()I"⟩
abbrev cX9_far : ByteArray := prog_11_method_43_code
def yX9_far : MethodName := ⟨RX9, "far", "()I"⟩
abbrev cX9_farthest : ByteArray := prog_11_method_44_code
def yX9_farthest : MethodName := ⟨RX9, "farthest", "()I"⟩
abbrev cX9_joinAll : ByteArray := prog_11_method_45_code
def yX9_joinAll : MethodName := ⟨RX9, "joinAll", "()V"⟩
abbrev cX9_joined : ByteArray := prog_11_method_46_code
def yX9_joined : MethodName := ⟨RX9, "joined", "(I)I"⟩
abbrev cX9_areNames : ByteArray := prog_11_method_47_code
def yX9_areNames : MethodName := ⟨RX9, "areNames", "(IIIII)Z"⟩
abbrev cX9_rename : ByteArray := prog_11_method_48_code
def yX9_rename : MethodName := ⟨RX9, "rename", "(IIIII)Z"⟩
abbrev cX9_about : ByteArray := prog_11_method_49_code
def yX9_about : MethodName := ⟨RX9, "about", "()I"⟩
abbrev cX9_scheme : ByteArray := prog_11_method_50_code
def yX9_scheme : MethodName := ⟨RX9, "scheme", "()I"⟩
abbrev cX9_isScheme : ByteArray := prog_11_method_51_code
def yX9_isScheme : MethodName := ⟨RX9, "isScheme", "(I)Z"⟩
abbrev cX9_single : ByteArray := prog_11_method_52_code
def yX9_single : MethodName := ⟨RX9, "single", "(III)I"⟩
abbrev cX9_call : ByteArray := prog_11_method_53_code
def yX9_call : MethodName := ⟨RX9, "call", "(IIIIIIII)I"⟩
abbrev cX9_count : ByteArray := prog_11_method_54_code
def yX9_count : MethodName := ⟨RX9, "count", "(II)J"⟩
abbrev cX9_tried : ByteArray := prog_11_method_55_code
def yX9_tried : MethodName := ⟨RX9, "tried", "(IIIIIII)I"⟩
abbrev cX9_failed : ByteArray := prog_11_method_56_code
def yX9_failed : MethodName := ⟨RX9, "failed", "()I"⟩
abbrev cX9_trouble : ByteArray := prog_11_method_57_code
def yX9_trouble : MethodName := ⟨RX9, "trouble", "()I"⟩
abbrev cX9_size : ByteArray := prog_11_method_58_code
def yX9_size : MethodName := ⟨RX9, "size", "(I)I"⟩
def RJx8e188 : String := "java/lang/Cloneable"
def TJx8e188 : u_T := fun k => match k with
  | _ => ("", "", "", false)
def tyJx8e188 : Nat → FieldType := fun k => match k with
  | _ => .int
theorem nmJx8e188 : ∀ a, a < 0 → ∀ b, b < 0 → a ≠ b → (TJx8e188 a).2.1 ≠ (TJx8e188 b).2.1 := by decide +kernel
theorem tyJx8e188_ok : ∀ k, k < 0 → parseFieldDescriptor (TJx8e188 k).2.2.1 = some (tyJx8e188 k) := by decide +kernel
def RJ9 : String := "java/lang/Math"
def TJ9 : u_T := fun k => match k with
  | _ => ("", "", "", false)
def tyJ9 : Nat → FieldType := fun k => match k with
  | _ => .int
theorem nmJ9 : ∀ a, a < 0 → ∀ b, b < 0 → a ≠ b → (TJ9 a).2.1 ≠ (TJ9 b).2.1 := by decide +kernel
theorem tyJ9_ok : ∀ k, k < 0 → parseFieldDescriptor (TJ9 k).2.2.1 = some (tyJ9 k) := by decide +kernel
abbrev cJ9_max_7cf53 : ByteArray := prog_13_method_65_code
def yJ9_max_7cf53 : MethodName := ⟨RJ9, "max", "(II)I"⟩
abbrev cJ9_min_7cf53 : ByteArray := prog_13_method_69_code
def yJ9_min_7cf53 : MethodName := ⟨RJ9, "min", "(II)I"⟩
abbrev cJ9_min_f86c9 : ByteArray := prog_13_method_70_code
def yJ9_min_f86c9 : MethodName := ⟨RJ9, "min", "(JJ)J"⟩
def RJ10 : String := "java/lang/System"
def TJ10 : u_T := fun k => match k with
  | _ => ("", "", "", false)
def tyJ10 : Nat → FieldType := fun k => match k with
  | _ => .int
theorem nmJ10 : ∀ a, a < 0 → ∀ b, b < 0 → a ≠ b → (TJ10 a).2.1 ≠ (TJ10 b).2.1 := by decide +kernel
theorem tyJ10_ok : ∀ k, k < 0 → parseFieldDescriptor (TJ10 k).2.2.1 = some (tyJ10 k) := by decide +kernel
def RJ7 : String := "java/util/Arrays"
def TJ7 : u_T := fun k => match k with
  | _ => ("", "", "", false)
def tyJ7 : Nat → FieldType := fun k => match k with
  | _ => .int
theorem nmJ7 : ∀ a, a < 0 → ∀ b, b < 0 → a ≠ b → (TJ7 a).2.1 ≠ (TJ7 b).2.1 := by decide +kernel
theorem tyJ7_ok : ∀ k, k < 0 → parseFieldDescriptor (TJ7 k).2.2.1 = some (tyJ7 k) := by decide +kernel
abbrev cJ7_fill_d0a16 : ByteArray := prog_15_method_101_code
def yJ7_fill_d0a16 : MethodName := ⟨RJ7, "fill", "([JJ)V"⟩
abbrev cJ7_fill_53178 : ByteArray := prog_15_method_103_code
def yJ7_fill_53178 : MethodName := ⟨RJ7, "fill", "([II)V"⟩
abbrev cJ7_copyOf_59c91 : ByteArray := prog_15_method_123_code
def yJ7_copyOf_59c91 : MethodName := ⟨RJ7, "copyOf", "([II)[I"⟩
def RL : String := "DiscYardLaw"
abbrev cL_law : ByteArray := code
def yL_law : MethodName := ⟨RL, "law", "([I)Z"⟩
abbrev vwCl : List vw_C := [(RX0, TX0, 7), (RX1, TX1, 6), (RX2, TX2, 13), (RX3, TX3, 10), (RX4, TX4, 4), (RX5, TX5, 2), (RX6, TX6, 9), (RX7, TX7, 5), (RX8, TX8, 11), (RX9, TX9, 48)]
def gw : List Cond := lw_tbl.filter goodWord
theorem inX0 : ∀ w ∈ wsX00, w ∈ gw := by
  have h : wsX00 = ([102, 104, 106, 108, 110, 112, 114] : List Nat).filterMap (fun i => lw_tbl[i]?) := by decide +kernel
  intro w hw
  have hgd : ∀ w ∈ wsX00, goodWord w = true := by decide +kernel
  have hgd := hgd
  have hw0 := hw
  rw [h] at hw
  obtain ⟨i, -, hi⟩ := List.mem_filterMap.mp hw
  exact List.mem_filter.mpr ⟨List.mem_of_getElem? hi, hgd w hw0⟩
theorem inX1 : ∀ w ∈ wsX10, w ∈ gw := by
  have h : wsX10 = ([305, 307, 309, 311, 313, 315] : List Nat).filterMap (fun i => lw_tbl[i]?) := by decide +kernel
  intro w hw
  have hgd : ∀ w ∈ wsX10, goodWord w = true := by decide +kernel
  have hgd := hgd
  have hw0 := hw
  rw [h] at hw
  obtain ⟨i, -, hi⟩ := List.mem_filterMap.mp hw
  exact List.mem_filter.mpr ⟨List.mem_of_getElem? hi, hgd w hw0⟩
theorem inX2 : ∀ w ∈ wsX20, w ∈ gw := by
  have h : wsX20 = ([261, 263, 265, 267, 269, 271, 273, 275, 277, 279, 281, 283, 285] : List Nat).filterMap (fun i => lw_tbl[i]?) := by decide +kernel
  intro w hw
  have hgd : ∀ w ∈ wsX20, goodWord w = true := by decide +kernel
  have hgd := hgd
  have hw0 := hw
  rw [h] at hw
  obtain ⟨i, -, hi⟩ := List.mem_filterMap.mp hw
  exact List.mem_filter.mpr ⟨List.mem_of_getElem? hi, hgd w hw0⟩
theorem inX3 : ∀ w ∈ wsX30, w ∈ gw := by
  have h : wsX30 = ([147, 149, 151, 153, 155, 157, 159, 161, 163, 165] : List Nat).filterMap (fun i => lw_tbl[i]?) := by decide +kernel
  intro w hw
  have hgd : ∀ w ∈ wsX30, goodWord w = true := by decide +kernel
  have hgd := hgd
  have hw0 := hw
  rw [h] at hw
  obtain ⟨i, -, hi⟩ := List.mem_filterMap.mp hw
  exact List.mem_filter.mpr ⟨List.mem_of_getElem? hi, hgd w hw0⟩
theorem inX4 : ∀ w ∈ wsX40, w ∈ gw := by
  have h : wsX40 = ([180, 182, 184, 186] : List Nat).filterMap (fun i => lw_tbl[i]?) := by decide +kernel
  intro w hw
  have hgd : ∀ w ∈ wsX40, goodWord w = true := by decide +kernel
  have hgd := hgd
  have hw0 := hw
  rw [h] at hw
  obtain ⟨i, -, hi⟩ := List.mem_filterMap.mp hw
  exact List.mem_filter.mpr ⟨List.mem_of_getElem? hi, hgd w hw0⟩
theorem inX5 : ∀ w ∈ wsX50, w ∈ gw := by
  have h : wsX50 = ([200, 202] : List Nat).filterMap (fun i => lw_tbl[i]?) := by decide +kernel
  intro w hw
  have hgd : ∀ w ∈ wsX50, goodWord w = true := by decide +kernel
  have hgd := hgd
  have hw0 := hw
  rw [h] at hw
  obtain ⟨i, -, hi⟩ := List.mem_filterMap.mp hw
  exact List.mem_filter.mpr ⟨List.mem_of_getElem? hi, hgd w hw0⟩
theorem inX6 : ∀ w ∈ wsX60, w ∈ gw := by
  have h : wsX60 = ([221, 223, 225, 227, 229, 231, 233, 235, 237] : List Nat).filterMap (fun i => lw_tbl[i]?) := by decide +kernel
  intro w hw
  have hgd : ∀ w ∈ wsX60, goodWord w = true := by decide +kernel
  have hgd := hgd
  have hw0 := hw
  rw [h] at hw
  obtain ⟨i, -, hi⟩ := List.mem_filterMap.mp hw
  exact List.mem_filter.mpr ⟨List.mem_of_getElem? hi, hgd w hw0⟩
theorem inX7 : ∀ w ∈ wsX70, w ∈ gw := by
  have h : wsX70 = ([332, 334, 336, 338, 340] : List Nat).filterMap (fun i => lw_tbl[i]?) := by decide +kernel
  intro w hw
  have hgd : ∀ w ∈ wsX70, goodWord w = true := by decide +kernel
  have hgd := hgd
  have hw0 := hw
  rw [h] at hw
  obtain ⟨i, -, hi⟩ := List.mem_filterMap.mp hw
  exact List.mem_filter.mpr ⟨List.mem_of_getElem? hi, hgd w hw0⟩
theorem inX8 : ∀ w ∈ wsX80, w ∈ gw := by
  have h : wsX80 = ([354, 356, 358, 360, 362, 364, 366, 368, 370, 372, 374] : List Nat).filterMap (fun i => lw_tbl[i]?) := by decide +kernel
  intro w hw
  have hgd : ∀ w ∈ wsX80, goodWord w = true := by decide +kernel
  have hgd := hgd
  have hw0 := hw
  rw [h] at hw
  obtain ⟨i, -, hi⟩ := List.mem_filterMap.mp hw
  exact List.mem_filter.mpr ⟨List.mem_of_getElem? hi, hgd w hw0⟩
theorem inX9 : ∀ w ∈ wsX90, w ∈ gw := by
  have h : wsX90 = ([876, 878, 880, 882, 884, 886, 888, 890, 892, 894, 896, 898, 900, 902, 904, 906, 908, 910, 912, 914, 916, 918, 920, 922, 924, 926, 928, 930, 932, 934, 936, 938, 940, 942, 944, 946, 948, 950, 952, 954, 956, 958, 960, 962, 964, 966, 968, 970] : List Nat).filterMap (fun i => lw_tbl[i]?) := by decide +kernel
  intro w hw
  have hgd : ∀ w ∈ wsX90, goodWord w = true := by decide +kernel
  have hgd := hgd
  have hw0 := hw
  rw [h] at hw
  obtain ⟨i, -, hi⟩ := List.mem_filterMap.mp hw
  exact List.mem_filter.mpr ⟨List.mem_of_getElem? hi, hgd w hw0⟩
