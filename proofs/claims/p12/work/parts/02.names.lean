def RX0 : String := "NightwatchWall$Fogs"
def TX0 : u_T := fun k => match k with
  | 0 => ("NightwatchWall$Fogs", "minutes", "LNightwatchWall$Numbers;", true)
  | _ => ("NightwatchWall$Fogs", "densities", "LNightwatchWall$Numbers;", true)
def tyX0 : Nat → FieldType := fun k => match k with
  | 0 => .object "NightwatchWall$Numbers"
  | _ => .object "NightwatchWall$Numbers"
theorem nmX0 : ∀ a, a < 2 → ∀ b, b < 2 → a ≠ b → (TX0 a).2.1 ≠ (TX0 b).2.1 := by decide +kernel
theorem tyX0_ok : ∀ k, k < 2 → parseFieldDescriptor (TX0 k).2.2.1 = some (tyX0 k) := by decide +kernel
abbrev cX0_init : ByteArray := prog_2_method_1_code
def yX0_init : MethodName := ⟨RX0, "<init>", "()V"⟩
abbrev cX0_isFull : ByteArray := prog_2_method_2_code
def yX0_isFull : MethodName := ⟨RX0, "isFull", "()Z"⟩
abbrev cX0_forget : ByteArray := prog_2_method_3_code
def yX0_forget : MethodName := ⟨RX0, "forget", "()V"⟩
abbrev cX0_tell : ByteArray := prog_2_method_4_code
def yX0_tell : MethodName := ⟨RX0, "tell", "(II)I"⟩
abbrev cX0_fogAt : ByteArray := prog_2_method_5_code
def yX0_fogAt : MethodName := ⟨RX0, "fogAt", "(I)I"⟩
def RX1 : String := "NightwatchWall$Grid"
def TX1 : u_T := fun k => match k with
  | 0 => ("NightwatchWall$Grid", "wide", "I", false)
  | 1 => ("NightwatchWall$Grid", "high", "I", false)
  | 2 => ("NightwatchWall$Grid", "firstColumn", "J", false)
  | 3 => ("NightwatchWall$Grid", "lastColumn", "J", false)
  | 4 => ("NightwatchWall$Grid", "walls", "J", false)
  | 5 => ("NightwatchWall$Grid", "hedges", "J", false)
  | 6 => ("NightwatchWall$Grid", "gateCells", "J", false)
  | 7 => ("NightwatchWall$Grid", "openFrom", "I", false)
  | 8 => ("NightwatchWall$Grid", "openTo", "I", false)
  | _ => ("NightwatchWall$Grid", "views", "[J", true)
def tyX1 : Nat → FieldType := fun k => match k with
  | 0 => .int
  | 1 => .int
  | 2 => .long
  | 3 => .long
  | 4 => .long
  | 5 => .long
  | 6 => .long
  | 7 => .int
  | 8 => .int
  | _ => .array .long
theorem nmX1 : ∀ a, a < 10 → ∀ b, b < 10 → a ≠ b → (TX1 a).2.1 ≠ (TX1 b).2.1 := by decide +kernel
theorem tyX1_ok : ∀ k, k < 10 → parseFieldDescriptor (TX1 k).2.2.1 = some (tyX1 k) := by decide +kernel
abbrev cX1_init : ByteArray := prog_3_method_1_code
def yX1_init : MethodName := ⟨RX1, "<init>", "()V"⟩
abbrev cX1_wide : ByteArray := prog_3_method_2_code
def yX1_wide : MethodName := ⟨RX1, "wide", "()I"⟩
abbrev cX1_high : ByteArray := prog_3_method_3_code
def yX1_high : MethodName := ⟨RX1, "high", "()I"⟩
abbrev cX1_cells : ByteArray := prog_3_method_4_code
def yX1_cells : MethodName := ⟨RX1, "cells", "()I"⟩
abbrev cX1_build : ByteArray := prog_3_method_5_code
def yX1_build : MethodName := ⟨RX1, "build", "(III)V"⟩
abbrev cX1_change : ByteArray := prog_3_method_6_code
def yX1_change : MethodName := ⟨RX1, "change", "(II)V"⟩
abbrev cX1_openGates : ByteArray := prog_3_method_7_code
def yX1_openGates : MethodName := ⟨RX1, "openGates", "(II)V"⟩
abbrev cX1_kindOfDigit : ByteArray := prog_3_method_8_code
def yX1_kindOfDigit : MethodName := ⟨RX1, "kindOfDigit", "(I)I"⟩
abbrev cX1_setKind : ByteArray := prog_3_method_9_code
def yX1_setKind : MethodName := ⟨RX1, "setKind", "(II)V"⟩
abbrev cX1_kindOf : ByteArray := prog_3_method_10_code
def yX1_kindOf : MethodName := ⟨RX1, "kindOf", "(I)I"⟩
abbrev cX1_isWall : ByteArray := prog_3_method_11_code
def yX1_isWall : MethodName := ⟨RX1, "isWall", "(I)Z"⟩
abbrev cX1_gateCount : ByteArray := prog_3_method_12_code
def yX1_gateCount : MethodName := ⟨RX1, "gateCount", "()I"⟩
abbrev cX1_allCells : ByteArray := prog_3_method_13_code
def yX1_allCells : MethodName := ⟨RX1, "allCells", "()J"⟩
abbrev cX1_openCells : ByteArray := prog_3_method_14_code
def yX1_openCells : MethodName := ⟨RX1, "openCells", "()J"⟩
abbrev cX1_walkable : ByteArray := prog_3_method_15_code
def yX1_walkable : MethodName := ⟨RX1, "walkable", "(I)J"⟩
abbrev cX1_cellOf : ByteArray := prog_3_method_16_code
def yX1_cellOf : MethodName := ⟨RX1, "cellOf", "(II)I"⟩
abbrev cX1_rowOf : ByteArray := prog_3_method_17_code
def yX1_rowOf : MethodName := ⟨RX1, "rowOf", "(I)I"⟩
abbrev cX1_columnOf : ByteArray := prog_3_method_18_code
def yX1_columnOf : MethodName := ⟨RX1, "columnOf", "(I)I"⟩
abbrev cX1_cellBehind : ByteArray := prog_3_method_19_code
def yX1_cellBehind : MethodName := ⟨RX1, "cellBehind", "(II)I"⟩
abbrev cX1_spread : ByteArray := prog_3_method_20_code
def yX1_spread : MethodName := ⟨RX1, "spread", "(J)J"⟩
abbrev cX1_drawColumns : ByteArray := prog_3_method_21_code
def yX1_drawColumns : MethodName := ⟨RX1, "drawColumns", "()V"⟩
abbrev cX1_viewOf : ByteArray := prog_3_method_22_code
def yX1_viewOf : MethodName := ⟨RX1, "viewOf", "(II)J"⟩
abbrev cX1_drawViews : ByteArray := prog_3_method_23_code
def yX1_drawViews : MethodName := ⟨RX1, "drawViews", "()V"⟩
abbrev cX1_drawViewsOf : ByteArray := prog_3_method_24_code
def yX1_drawViewsOf : MethodName := ⟨RX1, "drawViewsOf", "(I)V"⟩
abbrev cX1_cellToward : ByteArray := prog_3_method_25_code
def yX1_cellToward : MethodName := ⟨RX1, "cellToward", "(III)I"⟩
def RX2 : String := "NightwatchWall$Guards"
def TX2 : u_T := fun k => match k with
  | 0 => ("NightwatchWall$Guards", "firsts", "LNightwatchWall$Numbers;", true)
  | 1 => ("NightwatchWall$Guards", "lasts", "LNightwatchWall$Numbers;", true)
  | 2 => ("NightwatchWall$Guards", "stays", "LNightwatchWall$Numbers;", true)
  | 3 => ("NightwatchWall$Guards", "lengths", "LNightwatchWall$Numbers;", true)
  | _ => ("NightwatchWall$Guards", "rounds", "LNightwatchWall$Numbers;", true)
def tyX2 : Nat → FieldType := fun k => match k with
  | 0 => .object "NightwatchWall$Numbers"
  | 1 => .object "NightwatchWall$Numbers"
  | 2 => .object "NightwatchWall$Numbers"
  | 3 => .object "NightwatchWall$Numbers"
  | _ => .object "NightwatchWall$Numbers"
theorem nmX2 : ∀ a, a < 5 → ∀ b, b < 5 → a ≠ b → (TX2 a).2.1 ≠ (TX2 b).2.1 := by decide +kernel
theorem tyX2_ok : ∀ k, k < 5 → parseFieldDescriptor (TX2 k).2.2.1 = some (tyX2 k) := by decide +kernel
abbrev cX2_init : ByteArray := prog_4_method_1_code
def yX2_init : MethodName := ⟨RX2, "<init>", "()V"⟩
abbrev cX2_count : ByteArray := prog_4_method_2_code
def yX2_count : MethodName := ⟨RX2, "count", "()I"⟩
abbrev cX2_isFull : ByteArray := prog_4_method_3_code
def yX2_isFull : MethodName := ⟨RX2, "isFull", "()Z"⟩
abbrev cX2_forget : ByteArray := prog_4_method_4_code
def yX2_forget : MethodName := ⟨RX2, "forget", "()V"⟩
abbrev cX2_enlist : ByteArray := prog_4_method_5_code
def yX2_enlist : MethodName := ⟨RX2, "enlist", "(IIII)I"⟩
abbrev cX2_isRoundFull : ByteArray := prog_4_method_6_code
def yX2_isRoundFull : MethodName := ⟨RX2, "isRoundFull", "(I)Z"⟩
abbrev cX2_lengthen : ByteArray := prog_4_method_7_code
def yX2_lengthen : MethodName := ⟨RX2, "lengthen", "(II)I"⟩
abbrev cX2_firstOf : ByteArray := prog_4_method_8_code
def yX2_firstOf : MethodName := ⟨RX2, "firstOf", "(I)I"⟩
abbrev cX2_lastOf : ByteArray := prog_4_method_9_code
def yX2_lastOf : MethodName := ⟨RX2, "lastOf", "(I)I"⟩
abbrev cX2_stayOf : ByteArray := prog_4_method_10_code
def yX2_stayOf : MethodName := ⟨RX2, "stayOf", "(I)I"⟩
abbrev cX2_lengthOf : ByteArray := prog_4_method_11_code
def yX2_lengthOf : MethodName := ⟨RX2, "lengthOf", "(I)I"⟩
abbrev cX2_standAt : ByteArray := prog_4_method_12_code
def yX2_standAt : MethodName := ⟨RX2, "standAt", "(II)I"⟩
abbrev cX2_isOnDuty : ByteArray := prog_4_method_13_code
def yX2_isOnDuty : MethodName := ⟨RX2, "isOnDuty", "(II)Z"⟩
abbrev cX2_isTired : ByteArray := prog_4_method_14_code
def yX2_isTired : MethodName := ⟨RX2, "isTired", "(II)Z"⟩
abbrev cX2_tiredMinutesOf : ByteArray := prog_4_method_15_code
def yX2_tiredMinutesOf : MethodName := ⟨RX2, "tiredMinutesOf", "(I)I"⟩
abbrev cX2_countOnDuty : ByteArray := prog_4_method_16_code
def yX2_countOnDuty : MethodName := ⟨RX2, "countOnDuty", "(I)I"⟩
abbrev cX2_countTired : ByteArray := prog_4_method_17_code
def yX2_countTired : MethodName := ⟨RX2, "countTired", "(I)I"⟩
abbrev cX2_setOn : ByteArray := prog_4_method_18_code
def yX2_setOn : MethodName := ⟨RX2, "setOn", "(II)I"⟩
abbrev cX2_firstOn : ByteArray := prog_4_method_19_code
def yX2_firstOn : MethodName := ⟨RX2, "firstOn", "(II)I"⟩
abbrev cX2_cellsHeld : ByteArray := prog_4_method_20_code
def yX2_cellsHeld : MethodName := ⟨RX2, "cellsHeld", "(I)J"⟩
abbrev cX2_roundCells : ByteArray := prog_4_method_21_code
def yX2_roundCells : MethodName := ⟨RX2, "roundCells", "()J"⟩
def RX3 : String := "NightwatchWall$Intruders"
def TX3 : u_T := fun k => match k with
  | 0 => ("NightwatchWall$Intruders", "firsts", "LNightwatchWall$Numbers;", true)
  | 1 => ("NightwatchWall$Intruders", "told", "LNightwatchWall$Numbers;", true)
  | 2 => ("NightwatchWall$Intruders", "made", "LNightwatchWall$Numbers;", true)
  | 3 => ("NightwatchWall$Intruders", "ways", "LNightwatchWall$Numbers;", true)
  | 4 => ("NightwatchWall$Intruders", "steps", "LNightwatchWall$Numbers;", true)
  | _ => ("NightwatchWall$Intruders", "stepMinutes", "LNightwatchWall$Numbers;", true)
def tyX3 : Nat → FieldType := fun k => match k with
  | 0 => .object "NightwatchWall$Numbers"
  | 1 => .object "NightwatchWall$Numbers"
  | 2 => .object "NightwatchWall$Numbers"
  | 3 => .object "NightwatchWall$Numbers"
  | 4 => .object "NightwatchWall$Numbers"
  | _ => .object "NightwatchWall$Numbers"
theorem nmX3 : ∀ a, a < 6 → ∀ b, b < 6 → a ≠ b → (TX3 a).2.1 ≠ (TX3 b).2.1 := by decide +kernel
theorem tyX3_ok : ∀ k, k < 6 → parseFieldDescriptor (TX3 k).2.2.1 = some (tyX3 k) := by decide +kernel
abbrev cX3_init : ByteArray := prog_5_method_1_code
def yX3_init : MethodName := ⟨RX3, "<init>", "()V"⟩
abbrev cX3_count : ByteArray := prog_5_method_2_code
def yX3_count : MethodName := ⟨RX3, "count", "()I"⟩
abbrev cX3_isFull : ByteArray := prog_5_method_3_code
def yX3_isFull : MethodName := ⟨RX3, "isFull", "()Z"⟩
abbrev cX3_forget : ByteArray := prog_5_method_4_code
def yX3_forget : MethodName := ⟨RX3, "forget", "()V"⟩
abbrev cX3_come : ByteArray := prog_5_method_5_code
def yX3_come : MethodName := ⟨RX3, "come", "(LNightwatchWall$Grid;III)Z"⟩
abbrev cX3_walk : ByteArray := prog_5_method_6_code
def yX3_walk : MethodName := ⟨RX3, "walk", "(LNightwatchWall$Grid;III)I"⟩
abbrev cX3_countDigits : ByteArray := prog_5_method_7_code
def yX3_countDigits : MethodName := ⟨RX3, "countDigits", "(I)I"⟩
abbrev cX3_powerOfLeadingDigit : ByteArray := prog_5_method_8_code
def yX3_powerOfLeadingDigit : MethodName := ⟨RX3, "powerOfLeadingDigit", "(I)I"⟩
abbrev cX3_firstOf : ByteArray := prog_5_method_9_code
def yX3_firstOf : MethodName := ⟨RX3, "firstOf", "(I)I"⟩
abbrev cX3_movesOf : ByteArray := prog_5_method_10_code
def yX3_movesOf : MethodName := ⟨RX3, "movesOf", "(I)I"⟩
abbrev cX3_cellAt : ByteArray := prog_5_method_11_code
def yX3_cellAt : MethodName := ⟨RX3, "cellAt", "(II)I"⟩
abbrev cX3_countOn : ByteArray := prog_5_method_12_code
def yX3_countOn : MethodName := ⟨RX3, "countOn", "(II)I"⟩
abbrev cX3_wayCells : ByteArray := prog_5_method_13_code
def yX3_wayCells : MethodName := ⟨RX3, "wayCells", "()J"⟩
abbrev cX3_stepsOf : ByteArray := prog_5_method_14_code
def yX3_stepsOf : MethodName := ⟨RX3, "stepsOf", "(I)I"⟩
abbrev cX3_stepMinuteOf : ByteArray := prog_5_method_15_code
def yX3_stepMinuteOf : MethodName := ⟨RX3, "stepMinuteOf", "(I)I"⟩
abbrev cX3_isNextStep : ByteArray := prog_5_method_16_code
def yX3_isNextStep : MethodName := ⟨RX3, "isNextStep", "(III)Z"⟩
abbrev cX3_addStep : ByteArray := prog_5_method_17_code
def yX3_addStep : MethodName := ⟨RX3, "addStep", "(II)I"⟩
abbrev cX3_areStepsSound : ByteArray := prog_5_method_18_code
def yX3_areStepsSound : MethodName := ⟨RX3, "areStepsSound", "()Z"⟩
def RX4 : String := "NightwatchWall$Lamps"
def TX4 : u_T := fun k => match k with
  | 0 => ("NightwatchWall$Lamps", "cells", "LNightwatchWall$Numbers;", true)
  | 1 => ("NightwatchWall$Lamps", "reaches", "LNightwatchWall$Numbers;", true)
  | _ => ("NightwatchWall$Lamps", "lit", "LNightwatchWall$Numbers;", true)
def tyX4 : Nat → FieldType := fun k => match k with
  | 0 => .object "NightwatchWall$Numbers"
  | 1 => .object "NightwatchWall$Numbers"
  | _ => .object "NightwatchWall$Numbers"
theorem nmX4 : ∀ a, a < 3 → ∀ b, b < 3 → a ≠ b → (TX4 a).2.1 ≠ (TX4 b).2.1 := by decide +kernel
theorem tyX4_ok : ∀ k, k < 3 → parseFieldDescriptor (TX4 k).2.2.1 = some (tyX4 k) := by decide +kernel
abbrev cX4_init : ByteArray := prog_6_method_1_code
def yX4_init : MethodName := ⟨RX4, "<init>", "()V"⟩
abbrev cX4_count : ByteArray := prog_6_method_2_code
def yX4_count : MethodName := ⟨RX4, "count", "()I"⟩
abbrev cX4_isFull : ByteArray := prog_6_method_3_code
def yX4_isFull : MethodName := ⟨RX4, "isFull", "()Z"⟩
abbrev cX4_forget : ByteArray := prog_6_method_4_code
def yX4_forget : MethodName := ⟨RX4, "forget", "()V"⟩
abbrev cX4_putUp : ByteArray := prog_6_method_5_code
def yX4_putUp : MethodName := ⟨RX4, "putUp", "(II)I"⟩
abbrev cX4_turn : ByteArray := prog_6_method_6_code
def yX4_turn : MethodName := ⟨RX4, "turn", "(IZ)V"⟩
abbrev cX4_countLit : ByteArray := prog_6_method_7_code
def yX4_countLit : MethodName := ⟨RX4, "countLit", "()I"⟩
abbrev cX4_cells : ByteArray := prog_6_method_8_code
def yX4_cells : MethodName := ⟨RX4, "cells", "()J"⟩
abbrev cX4_brightCells : ByteArray := prog_6_method_9_code
def yX4_brightCells : MethodName := ⟨RX4, "brightCells", "(LNightwatchWall$Grid;)J"⟩
def RX5 : String := "NightwatchWall$Numbers"
def TX5 : u_T := fun k => match k with
  | 0 => ("NightwatchWall$Numbers", "held", "[I", true)
  | _ => ("NightwatchWall$Numbers", "size", "I", false)
def tyX5 : Nat → FieldType := fun k => match k with
  | 0 => .array .int
  | _ => .int
theorem nmX5 : ∀ a, a < 2 → ∀ b, b < 2 → a ≠ b → (TX5 a).2.1 ≠ (TX5 b).2.1 := by decide +kernel
theorem tyX5_ok : ∀ k, k < 2 → parseFieldDescriptor (TX5 k).2.2.1 = some (tyX5 k) := by decide +kernel
abbrev cX5_init : ByteArray := prog_7_method_1_code
def yX5_init : MethodName := ⟨RX5, "<init>", "(I)V"⟩
abbrev cX5_size : ByteArray := prog_7_method_2_code
def yX5_size : MethodName := ⟨RX5, "size", "()I"⟩
abbrev cX5_isFull : ByteArray := prog_7_method_3_code
def yX5_isFull : MethodName := ⟨RX5, "isFull", "()Z"⟩
abbrev cX5_at : ByteArray := prog_7_method_4_code
def yX5_at : MethodName := ⟨RX5, "at", "(I)I"⟩
abbrev cX5_put : ByteArray := prog_7_method_5_code
def yX5_put : MethodName := ⟨RX5, "put", "(II)V"⟩
abbrev cX5_add : ByteArray := prog_7_method_6_code
def yX5_add : MethodName := ⟨RX5, "add", "(I)V"⟩
abbrev cX5_clear : ByteArray := prog_7_method_7_code
def yX5_clear : MethodName := ⟨RX5, "clear", "()V"⟩
abbrev cX5_fill : ByteArray := prog_7_method_8_code
def yX5_fill : MethodName := ⟨RX5, "fill", "(I)V"⟩
abbrev cX5_placesOf : ByteArray := prog_7_method_9_code
def yX5_placesOf : MethodName := ⟨RX5, "placesOf", "(I)I"⟩
abbrev cX5_countOf : ByteArray := prog_7_method_10_code
def yX5_countOf : MethodName := ⟨RX5, "countOf", "(I)I"⟩
abbrev cX5_has : ByteArray := prog_7_method_11_code
def yX5_has : MethodName := ⟨RX5, "has", "(I)Z"⟩
abbrev cX5_asCells : ByteArray := prog_7_method_12_code
def yX5_asCells : MethodName := ⟨RX5, "asCells", "()J"⟩
def RX6 : String := "NightwatchWall$Wires"
def TX6 : u_T := fun k => match k with
  | 0 => ("NightwatchWall$Wires", "cells", "LNightwatchWall$Numbers;", true)
  | _ => ("NightwatchWall$Wires", "bars", "LNightwatchWall$Numbers;", true)
def tyX6 : Nat → FieldType := fun k => match k with
  | 0 => .object "NightwatchWall$Numbers"
  | _ => .object "NightwatchWall$Numbers"
theorem nmX6 : ∀ a, a < 2 → ∀ b, b < 2 → a ≠ b → (TX6 a).2.1 ≠ (TX6 b).2.1 := by decide +kernel
theorem tyX6_ok : ∀ k, k < 2 → parseFieldDescriptor (TX6 k).2.2.1 = some (tyX6 k) := by decide +kernel
abbrev cX6_init : ByteArray := prog_8_method_1_code
def yX6_init : MethodName := ⟨RX6, "<init>", "()V"⟩
abbrev cX6_count : ByteArray := prog_8_method_2_code
def yX6_count : MethodName := ⟨RX6, "count", "()I"⟩
abbrev cX6_isFull : ByteArray := prog_8_method_3_code
def yX6_isFull : MethodName := ⟨RX6, "isFull", "()Z"⟩
abbrev cX6_forget : ByteArray := prog_8_method_4_code
def yX6_forget : MethodName := ⟨RX6, "forget", "()V"⟩
abbrev cX6_stretch : ByteArray := prog_8_method_5_code
def yX6_stretch : MethodName := ⟨RX6, "stretch", "(II)I"⟩
abbrev cX6_cellOf : ByteArray := prog_8_method_6_code
def yX6_cellOf : MethodName := ⟨RX6, "cellOf", "(I)I"⟩
abbrev cX6_barOf : ByteArray := prog_8_method_7_code
def yX6_barOf : MethodName := ⟨RX6, "barOf", "(I)I"⟩
abbrev cX6_ownNoise : ByteArray := prog_8_method_8_code
def yX6_ownNoise : MethodName := ⟨RX6, "ownNoise", "(II)I"⟩
def RX7 : String := "NightwatchWall$Words"
def TX7 : u_T := fun k => match k with
  | 0 => ("NightwatchWall$Words", "words", "LNightwatchWall$Numbers;", true)
  | 1 => ("NightwatchWall$Words", "oldOnes", "LNightwatchWall$Numbers;", true)
  | 2 => ("NightwatchWall$Words", "strikes", "LNightwatchWall$Numbers;", true)
  | 3 => ("NightwatchWall$Words", "rightHours", "LNightwatchWall$Numbers;", true)
  | 4 => ("NightwatchWall$Words", "seed", "I", false)
  | 5 => ("NightwatchWall$Words", "latest", "I", false)
  | _ => ("NightwatchWall$Words", "rightAnswers", "I", false)
def tyX7 : Nat → FieldType := fun k => match k with
  | 0 => .object "NightwatchWall$Numbers"
  | 1 => .object "NightwatchWall$Numbers"
  | 2 => .object "NightwatchWall$Numbers"
  | 3 => .object "NightwatchWall$Numbers"
  | 4 => .int
  | 5 => .int
  | _ => .int
theorem nmX7 : ∀ a, a < 7 → ∀ b, b < 7 → a ≠ b → (TX7 a).2.1 ≠ (TX7 b).2.1 := by decide +kernel
theorem tyX7_ok : ∀ k, k < 7 → parseFieldDescriptor (TX7 k).2.2.1 = some (tyX7 k) := by decide +kernel
abbrev cX7_init : ByteArray := prog_9_method_1_code
def yX7_init : MethodName := ⟨RX7, "<init>", "()V"⟩
abbrev cX7_tell : ByteArray := prog_9_method_2_code
def yX7_tell : MethodName := ⟨RX7, "tell", "(I)V"⟩
abbrev cX7_startAnew : ByteArray := prog_9_method_3_code
def yX7_startAnew : MethodName := ⟨RX7, "startAnew", "()V"⟩
abbrev cX7_wordOf : ByteArray := prog_9_method_4_code
def yX7_wordOf : MethodName := ⟨RX7, "wordOf", "(I)I"⟩
abbrev cX7_isLeakedOut : ByteArray := prog_9_method_5_code
def yX7_isLeakedOut : MethodName := ⟨RX7, "isLeakedOut", "()Z"⟩
abbrev cX7_leaks : ByteArray := prog_9_method_6_code
def yX7_leaks : MethodName := ⟨RX7, "leaks", "()I"⟩
abbrev cX7_replace : ByteArray := prog_9_method_7_code
def yX7_replace : MethodName := ⟨RX7, "replace", "(I)I"⟩
abbrev cX7_rightAnswers : ByteArray := prog_9_method_8_code
def yX7_rightAnswers : MethodName := ⟨RX7, "rightAnswers", "()I"⟩
abbrev cX7_strikesOf : ByteArray := prog_9_method_9_code
def yX7_strikesOf : MethodName := ⟨RX7, "strikesOf", "(I)I"⟩
abbrev cX7_hoursOf : ByteArray := prog_9_method_10_code
def yX7_hoursOf : MethodName := ⟨RX7, "hoursOf", "(I)I"⟩
abbrev cX7_isBarred : ByteArray := prog_9_method_11_code
def yX7_isBarred : MethodName := ⟨RX7, "isBarred", "(I)Z"⟩
abbrev cX7_areStrikesSound : ByteArray := prog_9_method_12_code
def yX7_areStrikesSound : MethodName := ⟨RX7, "areStrikesSound", "()Z"⟩
abbrev cX7_judge : ByteArray := prog_9_method_13_code
def yX7_judge : MethodName := ⟨RX7, "judge", "(III)I"⟩
abbrev cX7_verdictOn : ByteArray := prog_9_method_14_code
def yX7_verdictOn : MethodName := ⟨RX7, "verdictOn", "(III)I"⟩
def RX8 : String := "NightwatchWall"
def TX8 : u_T := fun k => match k with
  | 0 => ("NightwatchWall", "grid", "LNightwatchWall$Grid;", true)
  | 1 => ("NightwatchWall", "lamps", "LNightwatchWall$Lamps;", true)
  | 2 => ("NightwatchWall", "fogs", "LNightwatchWall$Fogs;", true)
  | 3 => ("NightwatchWall", "guards", "LNightwatchWall$Guards;", true)
  | 4 => ("NightwatchWall", "posts", "LNightwatchWall$Numbers;", true)
  | 5 => ("NightwatchWall", "passwords", "LNightwatchWall$Words;", true)
  | 6 => ("NightwatchWall", "keys", "LNightwatchWall$Numbers;", true)
  | 7 => ("NightwatchWall", "intruders", "LNightwatchWall$Intruders;", true)
  | 8 => ("NightwatchWall", "wires", "LNightwatchWall$Wires;", true)
  | _ => ("NightwatchWall", "refused", "I", false)
def tyX8 : Nat → FieldType := fun k => match k with
  | 0 => .object "NightwatchWall$Grid"
  | 1 => .object "NightwatchWall$Lamps"
  | 2 => .object "NightwatchWall$Fogs"
  | 3 => .object "NightwatchWall$Guards"
  | 4 => .object "NightwatchWall$Numbers"
  | 5 => .object "NightwatchWall$Words"
  | 6 => .object "NightwatchWall$Numbers"
  | 7 => .object "NightwatchWall$Intruders"
  | 8 => .object "NightwatchWall$Wires"
  | _ => .int
theorem nmX8 : ∀ a, a < 10 → ∀ b, b < 10 → a ≠ b → (TX8 a).2.1 ≠ (TX8 b).2.1 := by decide +kernel
theorem tyX8_ok : ∀ k, k < 10 → parseFieldDescriptor (TX8 k).2.2.1 = some (tyX8 k) := by decide +kernel
abbrev cX8_init : ByteArray := prog_1_method_1_code
def yX8_init : MethodName := ⟨RX8, "<init>", "()V"⟩
abbrev cX8_base : ByteArray := prog_1_method_2_code
def yX8_base : MethodName := ⟨RX8, "base", "(III)I"⟩
abbrev cX8_lay : ByteArray := prog_1_method_3_code
def yX8_lay : MethodName := ⟨RX8, "lay", "(II)I"⟩
abbrev cX8_gates : ByteArray := prog_1_method_4_code
def yX8_gates : MethodName := ⟨RX8, "gates", "(II)I"⟩
abbrev cX8_lamp : ByteArray := prog_1_method_5_code
def yX8_lamp : MethodName := ⟨RX8, "lamp", "(II)I"⟩
abbrev cX8_light : ByteArray := prog_1_method_6_code
def yX8_light : MethodName := ⟨RX8, "light", "(IZ)I"⟩
abbrev cX8_fog : ByteArray := prog_1_method_7_code
def yX8_fog : MethodName := ⟨RX8, "fog", "(II)I"⟩
abbrev cX8_guard : ByteArray := prog_1_method_8_code
def yX8_guard : MethodName := ⟨RX8, "guard", "(IIII)I"⟩
abbrev cX8_round : ByteArray := prog_1_method_9_code
def yX8_round : MethodName := ⟨RX8, "round", "(II)I"⟩
abbrev cX8_post : ByteArray := prog_1_method_10_code
def yX8_post : MethodName := ⟨RX8, "post", "(I)I"⟩
abbrev cX8_place : ByteArray := prog_1_method_11_code
def yX8_place : MethodName := ⟨RX8, "place", "(II)I"⟩
abbrev cX8_sees : ByteArray := prog_1_method_12_code
def yX8_sees : MethodName := ⟨RX8, "sees", "(III)Z"⟩
abbrev cX8_ofCell : ByteArray := prog_1_method_13_code
def yX8_ofCell : MethodName := ⟨RX8, "ofCell", "(III)I"⟩
abbrev cX8_ofMinute : ByteArray := prog_1_method_14_code
def yX8_ofMinute : MethodName := ⟨RX8, "ofMinute", "(II)I"⟩
abbrev cX8_empty : ByteArray := prog_1_method_15_code
def yX8_empty : MethodName := ⟨RX8, "empty", "(IZ)I"⟩
abbrev cX8_lapse : ByteArray := prog_1_method_16_code
def yX8_lapse : MethodName := ⟨RX8, "lapse", "(III)I"⟩
abbrev cX8_words : ByteArray := prog_1_method_17_code
def yX8_words : MethodName := ⟨RX8, "words", "(I)I"⟩
abbrev cX8_leak : ByteArray := prog_1_method_18_code
def yX8_leak : MethodName := ⟨RX8, "leak", "(I)I"⟩
abbrev cX8_answer : ByteArray := prog_1_method_19_code
def yX8_answer : MethodName := ⟨RX8, "answer", "(III)I"⟩
abbrev cX8_key : ByteArray := prog_1_method_20_code
def yX8_key : MethodName := ⟨RX8, "key", "(II)I"⟩
abbrev cX8_ofGuard : ByteArray := prog_1_method_21_code
def yX8_ofGuard : MethodName := ⟨RX8, "ofGuard", "(II)I"⟩
abbrev cX8_intruder : ByteArray := prog_1_method_22_code
def yX8_intruder : MethodName := ⟨RX8, "intruder", "(III)I"⟩
abbrev cX8_wire : ByteArray := prog_1_method_23_code
def yX8_wire : MethodName := ⟨RX8, "wire", "(II)I"⟩
abbrev cX8_where : ByteArray := prog_1_method_24_code
def yX8_where : MethodName := ⟨RX8, "where", "(II)I"⟩
abbrev cX8_ofIntruder : ByteArray := prog_1_method_25_code
def yX8_ofIntruder : MethodName := ⟨RX8, "ofIntruder", "(II)I"⟩
abbrev cX8_force : ByteArray := prog_1_method_26_code
def yX8_force : MethodName := ⟨RX8, "force", "(III)I"⟩
abbrev cX8_ofWire : ByteArray := prog_1_method_27_code
def yX8_ofWire : MethodName := ⟨RX8, "ofWire", "(II)I"⟩
abbrev cX8_sneak : ByteArray := prog_1_method_28_code
def yX8_sneak : MethodName := ⟨RX8, "sneak", "(IIII)I"⟩
abbrev cX8_reach : ByteArray := prog_1_method_29_code
def yX8_reach : MethodName := ⟨RX8, "reach", "(III)I"⟩
abbrev cX8_nextLamp : ByteArray := prog_1_method_30_code
def yX8_nextLamp : MethodName := ⟨RX8, "nextLamp", "(IIZ)I"⟩
abbrev cX8_many : ByteArray := prog_1_method_31_code
def yX8_many : MethodName := ⟨RX8, "many", "(I)I"⟩
abbrev cX8_drawn : ByteArray := prog_1_method_32_code
def yX8_drawn : MethodName := ⟨RX8, "drawn", "(II)Ljava/lang/String;"⟩
abbrev cX8_isSound : ByteArray := prog_1_method_33_code
def yX8_isSound : MethodName := ⟨RX8, "isSound", "()Z"⟩
abbrev cX8_knock : ByteArray := prog_1_method_34_code
def yX8_knock : MethodName := ⟨RX8, "knock", "()I"⟩
abbrev cX8_digest : ByteArray := prog_1_method_35_code
def yX8_digest : MethodName := ⟨RX8, "digest", "()J"⟩
abbrev cX8_needCell : ByteArray := prog_1_method_36_code
def yX8_needCell : MethodName := ⟨RX8, "needCell", "(I)V"⟩
abbrev cX8_needThere : ByteArray := prog_1_method_37_code
def yX8_needThere : MethodName := ⟨RX8, "needThere", "(II)V"⟩
abbrev cX8_needNoneOrThere : ByteArray := prog_1_method_38_code
def yX8_needNoneOrThere : MethodName := ⟨RX8, "needNoneOrThere", "(II)V"⟩
abbrev cX8_needLet : ByteArray := prog_1_method_39_code
def yX8_needLet : MethodName := ⟨RX8, "needLet", "(Z)V"⟩
abbrev cX8_needPossible : ByteArray := prog_1_method_40_code
def yX8_needPossible : MethodName := ⟨RX8, "needPossible", "(Z)V"⟩
abbrev cX8_isMinute : ByteArray := prog_1_method_41_code
def yX8_isMinute : MethodName := ⟨RX8, "isMinute", "(I)Z"⟩
abbrev cX8_isIn : ByteArray := prog_1_method_42_code
def yX8_isIn : MethodName := ⟨RX8, "isIn", "(III)Z"⟩
abbrev cX8_setOf : ByteArray := prog_1_method_43_code
def yX8_setOf : MethodName := ⟨RX8, "setOf", "(I)J"⟩
abbrev cX8_isOf : ByteArray := prog_1_method_44_code
def yX8_isOf : MethodName := ⟨RX8, "isOf", "(JI)Z"⟩
abbrev cX8_nextOfRow : ByteArray := prog_1_method_45_code
def yX8_nextOfRow : MethodName := ⟨RX8, "nextOfRow", "(I)I"⟩
abbrev cX8_brightCells : ByteArray := prog_1_method_46_code
def yX8_brightCells : MethodName := ⟨RX8, "brightCells", "()J"⟩
abbrev cX8_watchedCells : ByteArray := prog_1_method_47_code
def yX8_watchedCells : MethodName := ⟨RX8, "watchedCells", "(I)J"⟩
abbrev cX8_sightOf : ByteArray := prog_1_method_48_code
def yX8_sightOf : MethodName := ⟨RX8, "sightOf", "(IIJ)J"⟩
abbrev cX8_guardsWhoSee : ByteArray := prog_1_method_49_code
def yX8_guardsWhoSee : MethodName := ⟨RX8, "guardsWhoSee", "(II)I"⟩
abbrev cX8_unseenCells : ByteArray := prog_1_method_50_code
def yX8_unseenCells : MethodName := ⟨RX8, "unseenCells", "(I)J"⟩
abbrev cX8_gainOfLamp : ByteArray := prog_1_method_51_code
def yX8_gainOfLamp : MethodName := ⟨RX8, "gainOfLamp", "(III)I"⟩
abbrev cX8_signOf : ByteArray := prog_1_method_52_code
def yX8_signOf : MethodName := ⟨RX8, "signOf", "(IIJ)C"⟩
abbrev cX8_takenCells : ByteArray := prog_1_method_53_code
def yX8_takenCells : MethodName := ⟨RX8, "takenCells", "()J"⟩
abbrev cX8_countEmptyPosts : ByteArray := prog_1_method_54_code
def yX8_countEmptyPosts : MethodName := ⟨RX8, "countEmptyPosts", "(I)I"⟩
abbrev cX8_countMinutesOfEmptyPosts : ByteArray := prog_1_method_55_code
def yX8_countMinutesOfEmptyPosts : MethodName := ⟨RX8, "countMinutesOfEmptyPosts", "()I"⟩
abbrev cX8_countKeysOffDuty : ByteArray := prog_1_method_56_code
def yX8_countKeysOffDuty : MethodName := ⟨RX8, "countKeysOffDuty", "(I)I"⟩
abbrev cX8_foundAt : ByteArray := prog_1_method_57_code
def yX8_foundAt : MethodName := ⟨RX8, "foundAt", "(I)I"⟩
abbrev cX8_countFound : ByteArray := prog_1_method_58_code
def yX8_countFound : MethodName := ⟨RX8, "countFound", "()I"⟩
abbrev cX8_findersOf : ByteArray := prog_1_method_59_code
def yX8_findersOf : MethodName := ⟨RX8, "findersOf", "(II)I"⟩
abbrev cX8_firstArrival : ByteArray := prog_1_method_60_code
def yX8_firstArrival : MethodName := ⟨RX8, "firstArrival", "(II)I"⟩
abbrev cX8_responder : ByteArray := prog_1_method_61_code
def yX8_responder : MethodName := ⟨RX8, "responder", "(II)I"⟩
abbrev cX8_arrival : ByteArray := prog_1_method_62_code
def yX8_arrival : MethodName := ⟨RX8, "arrival", "(III)I"⟩
abbrev cX8_rings : ByteArray := prog_1_method_63_code
def yX8_rings : MethodName := ⟨RX8, "rings", "(II)Z"⟩
abbrev cX8_isIntruded : ByteArray := prog_1_method_64_code
def yX8_isIntruded : MethodName := ⟨RX8, "isIntruded", "(II)Z"⟩
abbrev cX8_countRings : ByteArray := prog_1_method_65_code
def yX8_countRings : MethodName := ⟨RX8, "countRings", "(IZ)I"⟩
abbrev cX8_firstTrueRing : ByteArray := prog_1_method_66_code
def yX8_firstTrueRing : MethodName := ⟨RX8, "firstTrueRing", "(I)I"⟩
def RX9 : String := "NightwatchWallLaw$Out"
def TX9 : u_T := fun k => match k with
  | 0 => ("NightwatchWallLaw$Out", "n", "J", false)
  | _ => ("NightwatchWallLaw$Out", "s", "Ljava/lang/String;", false)
def tyX9 : Nat → FieldType := fun k => match k with
  | 0 => .long
  | _ => .object "java/lang/String"
theorem nmX9 : ∀ a, a < 2 → ∀ b, b < 2 → a ≠ b → (TX9 a).2.1 ≠ (TX9 b).2.1 := by decide +kernel
theorem tyX9_ok : ∀ k, k < 2 → parseFieldDescriptor (TX9 k).2.2.1 = some (tyX9 k) := by decide +kernel
abbrev cX9_init : ByteArray := prog_11_method_1_code
def yX9_init : MethodName := ⟨RX9, "<init>", "()V"⟩
def RX10 : String := "NightwatchWallModel$Guard"
def TX10 : u_T := fun k => match k with
  | 0 => ("NightwatchWallModel$Guard", "from", "I", true)
  | 1 => ("NightwatchWallModel$Guard", "to", "I", true)
  | 2 => ("NightwatchWallModel$Guard", "stay", "I", true)
  | 3 => ("NightwatchWallModel$Guard", "cells", "Ljava/util/List;", true)
  | 4 => ("NightwatchWallModel$Guard", "strikes", "I", false)
  | _ => ("NightwatchWallModel$Guard", "hours", "I", false)
def tyX10 : Nat → FieldType := fun k => match k with
  | 0 => .int
  | 1 => .int
  | 2 => .int
  | 3 => .object "java/util/List"
  | 4 => .int
  | _ => .int
theorem nmX10 : ∀ a, a < 6 → ∀ b, b < 6 → a ≠ b → (TX10 a).2.1 ≠ (TX10 b).2.1 := by decide +kernel
theorem tyX10_ok : ∀ k, k < 6 → parseFieldDescriptor (TX10 k).2.2.1 = some (tyX10 k) := by decide +kernel
abbrev cX10_init : ByteArray := prog_13_method_1_code
def yX10_init : MethodName := ⟨RX10, "<init>", "(IIII)V"⟩
abbrev cX10_isOnDuty : ByteArray := prog_13_method_2_code
def yX10_isOnDuty : MethodName := ⟨RX10, "isOnDuty", "(I)Z"⟩
abbrev cX10_isTired : ByteArray := prog_13_method_3_code
def yX10_isTired : MethodName := ⟨RX10, "isTired", "(I)Z"⟩
abbrev cX10_place : ByteArray := prog_13_method_4_code
def yX10_place : MethodName := ⟨RX10, "place", "(I)I"⟩
def RX11 : String := "NightwatchWallModel$Intruder"
def TX11 : u_T := fun k => match k with
  | 0 => ("NightwatchWallModel$Intruder", "from", "I", true)
  | 1 => ("NightwatchWallModel$Intruder", "many", "I", true)
  | 2 => ("NightwatchWallModel$Intruder", "way", "[I", true)
  | 3 => ("NightwatchWallModel$Intruder", "steps", "I", false)
  | _ => ("NightwatchWallModel$Intruder", "last", "I", false)
def tyX11 : Nat → FieldType := fun k => match k with
  | 0 => .int
  | 1 => .int
  | 2 => .array .int
  | 3 => .int
  | _ => .int
theorem nmX11 : ∀ a, a < 5 → ∀ b, b < 5 → a ≠ b → (TX11 a).2.1 ≠ (TX11 b).2.1 := by decide +kernel
theorem tyX11_ok : ∀ k, k < 5 → parseFieldDescriptor (TX11 k).2.2.1 = some (tyX11 k) := by decide +kernel
abbrev cX11_init : ByteArray := prog_14_method_1_code
def yX11_init : MethodName := ⟨RX11, "<init>", "(II)V"⟩
abbrev cX11_where : ByteArray := prog_14_method_2_code
def yX11_where : MethodName := ⟨RX11, "where", "(I)I"⟩
def RX12 : String := "NightwatchWallModel"
def TX12 : u_T := fun k => match k with
  | 0 => ("NightwatchWallModel", "thrown", "I", false)
  | 1 => ("NightwatchWallModel", "wide", "I", false)
  | 2 => ("NightwatchWallModel", "high", "I", false)
  | 3 => ("NightwatchWallModel", "kinds", "[I", false)
  | 4 => ("NightwatchWallModel", "openFrom", "I", false)
  | 5 => ("NightwatchWallModel", "openTo", "I", false)
  | 6 => ("NightwatchWallModel", "lamps", "Ljava/util/List;", false)
  | 7 => ("NightwatchWallModel", "fogs", "Ljava/util/List;", false)
  | 8 => ("NightwatchWallModel", "guards", "Ljava/util/List;", false)
  | 9 => ("NightwatchWallModel", "posts", "Ljava/util/List;", false)
  | 10 => ("NightwatchWallModel", "seed", "I", false)
  | 11 => ("NightwatchWallModel", "leaks", "I", false)
  | 12 => ("NightwatchWallModel", "next", "I", false)
  | 13 => ("NightwatchWallModel", "words", "[I", true)
  | 14 => ("NightwatchWallModel", "old", "Ljava/util/List;", false)
  | 15 => ("NightwatchWallModel", "right", "I", false)
  | 16 => ("NightwatchWallModel", "keys", "[I", true)
  | 17 => ("NightwatchWallModel", "intruders", "Ljava/util/List;", false)
  | 18 => ("NightwatchWallModel", "wires", "Ljava/util/List;", false)
  | _ => ("NightwatchWallModel", "refused", "I", false)
def tyX12 : Nat → FieldType := fun k => match k with
  | 0 => .int
  | 1 => .int
  | 2 => .int
  | 3 => .array .int
  | 4 => .int
  | 5 => .int
  | 6 => .object "java/util/List"
  | 7 => .object "java/util/List"
  | 8 => .object "java/util/List"
  | 9 => .object "java/util/List"
  | 10 => .int
  | 11 => .int
  | 12 => .int
  | 13 => .array .int
  | 14 => .object "java/util/List"
  | 15 => .int
  | 16 => .array .int
  | 17 => .object "java/util/List"
  | 18 => .object "java/util/List"
  | _ => .int
theorem nmX12 : ∀ a, a < 20 → ∀ b, b < 20 → a ≠ b → (TX12 a).2.1 ≠ (TX12 b).2.1 := by decide +kernel
theorem tyX12_ok : ∀ k, k < 20 → parseFieldDescriptor (TX12 k).2.2.1 = some (tyX12 k) := by decide +kernel
abbrev cX12_init : ByteArray := prog_12_method_1_code
def yX12_init : MethodName := ⟨RX12, "<init>", "()V"⟩
abbrev cX12_thrown : ByteArray := prog_12_method_2_code
def yX12_thrown : MethodName := ⟨RX12, "thrown", "()I"⟩
abbrev cX12_no : ByteArray := prog_12_method_3_code
def yX12_no : MethodName := ⟨RX12, "no", "(I)I"⟩
abbrev cX12_in : ByteArray := prog_12_method_4_code
def yX12_in : MethodName := ⟨RX12, "in", "(III)Z"⟩
abbrev cX12_isMinute : ByteArray := prog_12_method_5_code
def yX12_isMinute : MethodName := ⟨RX12, "isMinute", "(I)Z"⟩
abbrev cX12_isCell : ByteArray := prog_12_method_6_code
def yX12_isCell : MethodName := ⟨RX12, "isCell", "(I)Z"⟩
abbrev cX12_isGuard : ByteArray := prog_12_method_7_code
def yX12_isGuard : MethodName := ⟨RX12, "isGuard", "(I)Z"⟩
abbrev cX12_isIntruder : ByteArray := prog_12_method_8_code
def yX12_isIntruder : MethodName := ⟨RX12, "isIntruder", "(I)Z"⟩
abbrev cX12_after : ByteArray := prog_12_method_9_code
def yX12_after : MethodName := ⟨RX12, "after", "(I)I"⟩
abbrev cX12_begin : ByteArray := prog_12_method_10_code
def yX12_begin : MethodName := ⟨RX12, "begin", "()V"⟩
abbrev cX12_apart : ByteArray := prog_12_method_11_code
def yX12_apart : MethodName := ⟨RX12, "apart", "(II)I"⟩
abbrev cX12_isClear : ByteArray := prog_12_method_12_code
def yX12_isClear : MethodName := ⟨RX12, "isClear", "(II)Z"⟩
abbrev cX12_isLitBy : ByteArray := prog_12_method_13_code
def yX12_isLitBy : MethodName := ⟨RX12, "isLitBy", "(III)Z"⟩
abbrev cX12_isBright : ByteArray := prog_12_method_14_code
def yX12_isBright : MethodName := ⟨RX12, "isBright", "(I)Z"⟩
abbrev cX12_brights : ByteArray := prog_12_method_15_code
def yX12_brights : MethodName := ⟨RX12, "brights", "()I"⟩
abbrev cX12_fogAt : ByteArray := prog_12_method_16_code
def yX12_fogAt : MethodName := ⟨RX12, "fogAt", "(I)I"⟩
abbrev cX12_sees : ByteArray := prog_12_method_17_code
def yX12_sees : MethodName := ⟨RX12, "sees", "(LNightwatchWallModel$Guard;IIZI)Z"⟩
abbrev cX12_isWatched : ByteArray := prog_12_method_18_code
def yX12_isWatched : MethodName := ⟨RX12, "isWatched", "(II)Z"⟩
abbrev cX12_seers : ByteArray := prog_12_method_19_code
def yX12_seers : MethodName := ⟨RX12, "seers", "(II)I"⟩
abbrev cX12_isWalked : ByteArray := prog_12_method_20_code
def yX12_isWalked : MethodName := ⟨RX12, "isWalked", "(II)Z"⟩
abbrev cX12_base : ByteArray := prog_12_method_21_code
def yX12_base : MethodName := ⟨RX12, "base", "(III)I"⟩
abbrev cX12_isTaken : ByteArray := prog_12_method_22_code
def yX12_isTaken : MethodName := ⟨RX12, "isTaken", "(I)Z"⟩
abbrev cX12_lay : ByteArray := prog_12_method_23_code
def yX12_lay : MethodName := ⟨RX12, "lay", "(II)I"⟩
abbrev cX12_gates : ByteArray := prog_12_method_24_code
def yX12_gates : MethodName := ⟨RX12, "gates", "(II)I"⟩
abbrev cX12_lamp : ByteArray := prog_12_method_25_code
def yX12_lamp : MethodName := ⟨RX12, "lamp", "(II)I"⟩
abbrev cX12_light : ByteArray := prog_12_method_26_code
def yX12_light : MethodName := ⟨RX12, "light", "(IZ)I"⟩
abbrev cX12_fog : ByteArray := prog_12_method_27_code
def yX12_fog : MethodName := ⟨RX12, "fog", "(II)I"⟩
abbrev cX12_guard : ByteArray := prog_12_method_28_code
def yX12_guard : MethodName := ⟨RX12, "guard", "(IIII)I"⟩
abbrev cX12_round : ByteArray := prog_12_method_29_code
def yX12_round : MethodName := ⟨RX12, "round", "(II)I"⟩
abbrev cX12_post : ByteArray := prog_12_method_30_code
def yX12_post : MethodName := ⟨RX12, "post", "(I)I"⟩
abbrev cX12_place : ByteArray := prog_12_method_31_code
def yX12_place : MethodName := ⟨RX12, "place", "(II)I"⟩
abbrev cX12_sees_ : ByteArray := prog_12_method_32_code
def yX12_sees_ : MethodName := ⟨RX12, "sees", "(III)Z"⟩
abbrev cX12_onCell : ByteArray := prog_12_method_33_code
def yX12_onCell : MethodName := ⟨RX12, "onCell", "(II)I"⟩
abbrev cX12_cellNow : ByteArray := prog_12_method_34_code
def yX12_cellNow : MethodName := ⟨RX12, "cellNow", "(III)I"⟩
abbrev cX12_ofCell : ByteArray := prog_12_method_35_code
def yX12_ofCell : MethodName := ⟨RX12, "ofCell", "(III)I"⟩
abbrev cX12_isEmpty : ByteArray := prog_12_method_36_code
def yX12_isEmpty : MethodName := ⟨RX12, "isEmpty", "(II)Z"⟩
abbrev cX12_minuteNow : ByteArray := prog_12_method_37_code
def yX12_minuteNow : MethodName := ⟨RX12, "minuteNow", "(II)I"⟩
abbrev cX12_ofMinute : ByteArray := prog_12_method_38_code
def yX12_ofMinute : MethodName := ⟨RX12, "ofMinute", "(II)I"⟩
abbrev cX12_emptyNow : ByteArray := prog_12_method_39_code
def yX12_emptyNow : MethodName := ⟨RX12, "emptyNow", "(IZ)I"⟩
abbrev cX12_empty : ByteArray := prog_12_method_40_code
def yX12_empty : MethodName := ⟨RX12, "empty", "(IZ)I"⟩
abbrev cX12_lapse : ByteArray := prog_12_method_41_code
def yX12_lapse : MethodName := ⟨RX12, "lapse", "(III)I"⟩
abbrev cX12_words : ByteArray := prog_12_method_42_code
def yX12_words : MethodName := ⟨RX12, "words", "(I)I"⟩
abbrev cX12_leak : ByteArray := prog_12_method_43_code
def yX12_leak : MethodName := ⟨RX12, "leak", "(I)I"⟩
abbrev cX12_judged : ByteArray := prog_12_method_44_code
def yX12_judged : MethodName := ⟨RX12, "judged", "(LNightwatchWallModel$Guard;II)I"⟩
abbrev cX12_answer : ByteArray := prog_12_method_45_code
def yX12_answer : MethodName := ⟨RX12, "answer", "(III)I"⟩
abbrev cX12_key : ByteArray := prog_12_method_46_code
def yX12_key : MethodName := ⟨RX12, "key", "(II)I"⟩
abbrev cX12_guardNow : ByteArray := prog_12_method_47_code
def yX12_guardNow : MethodName := ⟨RX12, "guardNow", "(II)I"⟩
abbrev cX12_ofGuard : ByteArray := prog_12_method_48_code
def yX12_ofGuard : MethodName := ⟨RX12, "ofGuard", "(II)I"⟩
abbrev cX12_digits : ByteArray := prog_12_method_49_code
def yX12_digits : MethodName := ⟨RX12, "digits", "(I)I"⟩
abbrev cX12_digit : ByteArray := prog_12_method_50_code
def yX12_digit : MethodName := ⟨RX12, "digit", "(III)I"⟩
abbrev cX12_moved : ByteArray := prog_12_method_51_code
def yX12_moved : MethodName := ⟨RX12, "moved", "(II)I"⟩
abbrev cX12_intruder : ByteArray := prog_12_method_52_code
def yX12_intruder : MethodName := ⟨RX12, "intruder", "(III)I"⟩
abbrev cX12_wire : ByteArray := prog_12_method_53_code
def yX12_wire : MethodName := ⟨RX12, "wire", "(II)I"⟩
abbrev cX12_where : ByteArray := prog_12_method_54_code
def yX12_where : MethodName := ⟨RX12, "where", "(II)I"⟩
abbrev cX12_foundNow : ByteArray := prog_12_method_55_code
def yX12_foundNow : MethodName := ⟨RX12, "foundNow", "(LNightwatchWallModel$Intruder;)I"⟩
abbrev cX12_steps : ByteArray := prog_12_method_56_code
def yX12_steps : MethodName := ⟨RX12, "steps", "(I)[I"⟩
abbrev cX12_response : ByteArray := prog_12_method_57_code
def yX12_response : MethodName := ⟨RX12, "response", "(LNightwatchWallModel$Intruder;II)I"⟩
abbrev cX12_responseNow : ByteArray := prog_12_method_58_code
def yX12_responseNow : MethodName := ⟨RX12, "responseNow", "(LNightwatchWallModel$Intruder;Z)I"⟩
abbrev cX12_intruderNow : ByteArray := prog_12_method_59_code
def yX12_intruderNow : MethodName := ⟨RX12, "intruderNow", "(II)I"⟩
abbrev cX12_ofIntruder : ByteArray := prog_12_method_60_code
def yX12_ofIntruder : MethodName := ⟨RX12, "ofIntruder", "(II)I"⟩
abbrev cX12_force : ByteArray := prog_12_method_61_code
def yX12_force : MethodName := ⟨RX12, "force", "(III)I"⟩
abbrev cX12_thereAt : ByteArray := prog_12_method_62_code
def yX12_thereAt : MethodName := ⟨RX12, "thereAt", "(II)I"⟩
abbrev cX12_wireNow : ByteArray := prog_12_method_63_code
def yX12_wireNow : MethodName := ⟨RX12, "wireNow", "(II)I"⟩
abbrev cX12_ofWire : ByteArray := prog_12_method_64_code
def yX12_ofWire : MethodName := ⟨RX12, "ofWire", "(II)I"⟩
abbrev cX12_isUnseen : ByteArray := prog_12_method_65_code
def yX12_isUnseen : MethodName := ⟨RX12, "isUnseen", "(II)Z"⟩
abbrev cX12_onward : ByteArray := prog_12_method_66_code
def yX12_onward : MethodName := ⟨RX12, "onward", "([ZI)[Z"⟩
abbrev cX12_at : ByteArray := prog_12_method_67_code
def yX12_at : MethodName := ⟨RX12, "at", "(II)[Z"⟩
abbrev cX12_sneak : ByteArray := prog_12_method_68_code
def yX12_sneak : MethodName := ⟨RX12, "sneak", "(IIII)I"⟩
abbrev cX12_reach : ByteArray := prog_12_method_69_code
def yX12_reach : MethodName := ⟨RX12, "reach", "(III)I"⟩
abbrev cX12_nextLamp : ByteArray := prog_12_method_70_code
def yX12_nextLamp : MethodName := ⟨RX12, "nextLamp", "(IIZ)I"⟩
abbrev cX12_manyNow : ByteArray := prog_12_method_71_code
def yX12_manyNow : MethodName := ⟨RX12, "manyNow", "(I)I"⟩
abbrev cX12_many : ByteArray := prog_12_method_72_code
def yX12_many : MethodName := ⟨RX12, "many", "(I)I"⟩
abbrev cX12_drawn : ByteArray := prog_12_method_73_code
def yX12_drawn : MethodName := ⟨RX12, "drawn", "(II)Ljava/lang/String;"⟩
abbrev cX12_isSoundNow : ByteArray := prog_12_method_74_code
def yX12_isSoundNow : MethodName := ⟨RX12, "isSoundNow", "()Z"⟩
abbrev cX12_isSound : ByteArray := prog_12_method_75_code
def yX12_isSound : MethodName := ⟨RX12, "isSound", "()Z"⟩
abbrev cX12_knock : ByteArray := prog_12_method_76_code
def yX12_knock : MethodName := ⟨RX12, "knock", "()I"⟩
abbrev cX12_digest : ByteArray := prog_12_method_77_code
def yX12_digest : MethodName := ⟨RX12, "digest", "()J"⟩
def RJx145de : String := "java/io/Serializable"
def TJx145de : u_T := fun k => match k with
  | _ => ("", "", "", false)
def tyJx145de : Nat → FieldType := fun k => match k with
  | _ => .int
theorem nmJx145de : ∀ a, a < 0 → ∀ b, b < 0 → a ≠ b → (TJx145de a).2.1 ≠ (TJx145de b).2.1 := by decide +kernel
theorem tyJx145de_ok : ∀ k, k < 0 → parseFieldDescriptor (TJx145de k).2.2.1 = some (tyJx145de k) := by decide +kernel
def RJ5 : String := "java/lang/AbstractStringBuilder"
def TJ5 : u_T := fun k => match k with
  | _ => ("", "", "", false)
def tyJ5 : Nat → FieldType := fun k => match k with
  | _ => .int
theorem nmJ5 : ∀ a, a < 0 → ∀ b, b < 0 → a ≠ b → (TJ5 a).2.1 ≠ (TJ5 b).2.1 := by decide +kernel
theorem tyJ5_ok : ∀ k, k < 0 → parseFieldDescriptor (TJ5 k).2.2.1 = some (tyJ5 k) := by decide +kernel
abbrev cJ5_init_d00df : ByteArray := prog_16_method_2_code
def yJ5_init_d00df : MethodName := ⟨RJ5, "<init>", "(I)V"⟩
abbrev cJ5_length_8abf5 : ByteArray := prog_16_method_6_code
def yJ5_length_8abf5 : MethodName := ⟨RJ5, "length", "()I"⟩
abbrev cJ5_ensureCapacityInternal_d00df : ByteArray := prog_16_method_9_code
def yJ5_ensureCapacityInternal_d00df : MethodName := ⟨RJ5, "ensureCapacityInternal", "(I)V"⟩
abbrev cJ5_newCapacity_0f7a4 : ByteArray := prog_16_method_10_code
def yJ5_newCapacity_0f7a4 : MethodName := ⟨RJ5, "newCapacity", "(I)I"⟩
abbrev cJ5_inflate_da8c8 : ByteArray := prog_16_method_11_code
def yJ5_inflate_da8c8 : MethodName := ⟨RJ5, "inflate", "()V"⟩
abbrev cJ5_append_cf1ce : ByteArray := prog_16_method_22_code
def yJ5_append_cf1ce : MethodName := ⟨RJ5, "append", "(Ljava/lang/String;)Ljava/lang/AbstractStringBuilder;"⟩
abbrev cJ5_appendNull_278bc : ByteArray := prog_16_method_26_code
def yJ5_appendNull_278bc : MethodName := ⟨RJ5, "appendNull", "()Ljava/lang/AbstractStringBuilder;"⟩
abbrev cJ5_append_3fe6f : ByteArray := prog_16_method_31_code
def yJ5_append_3fe6f : MethodName := ⟨RJ5, "append", "(C)Ljava/lang/AbstractStringBuilder;"⟩
abbrev cJ5_append_c97b9 : ByteArray := prog_16_method_32_code
def yJ5_append_c97b9 : MethodName := ⟨RJ5, "append", "(I)Ljava/lang/AbstractStringBuilder;"⟩
abbrev cJ5_getValue_6d5f1 : ByteArray := prog_16_method_64_code
def yJ5_getValue_6d5f1 : MethodName := ⟨RJ5, "getValue", "()[B"⟩
abbrev cJ5_isLatin1_aae02 : ByteArray := prog_16_method_68_code
def yJ5_isLatin1_aae02 : MethodName := ⟨RJ5, "isLatin1", "()Z"⟩
abbrev cJ5_inflateIfNeededFor_a7421 : ByteArray := prog_16_method_71_code
def yJ5_inflateIfNeededFor_a7421 : MethodName := ⟨RJ5, "inflateIfNeededFor", "(Ljava/lang/String;)V"⟩
abbrev cJ5_putStringAt_47b60 : ByteArray := prog_16_method_73_code
def yJ5_putStringAt_47b60 : MethodName := ⟨RJ5, "putStringAt", "(ILjava/lang/String;)V"⟩
def RJx2cfe8 : String := "java/lang/Appendable"
def TJx2cfe8 : u_T := fun k => match k with
  | _ => ("", "", "", false)
def tyJx2cfe8 : Nat → FieldType := fun k => match k with
  | _ => .int
theorem nmJx2cfe8 : ∀ a, a < 0 → ∀ b, b < 0 → a ≠ b → (TJx2cfe8 a).2.1 ≠ (TJx2cfe8 b).2.1 := by decide +kernel
theorem tyJx2cfe8_ok : ∀ k, k < 0 → parseFieldDescriptor (TJx2cfe8 k).2.2.1 = some (tyJx2cfe8 k) := by decide +kernel
def RJx9f9b0 : String := "java/lang/CharSequence"
def TJx9f9b0 : u_T := fun k => match k with
  | _ => ("", "", "", false)
def tyJx9f9b0 : Nat → FieldType := fun k => match k with
  | _ => .int
theorem nmJx9f9b0 : ∀ a, a < 0 → ∀ b, b < 0 → a ≠ b → (TJx9f9b0 a).2.1 ≠ (TJx9f9b0 b).2.1 := by decide +kernel
theorem tyJx9f9b0_ok : ∀ k, k < 0 → parseFieldDescriptor (TJx9f9b0 k).2.2.1 = some (tyJx9f9b0 k) := by decide +kernel
def RJx8e188 : String := "java/lang/Cloneable"
def TJx8e188 : u_T := fun k => match k with
  | _ => ("", "", "", false)
def tyJx8e188 : Nat → FieldType := fun k => match k with
  | _ => .int
theorem nmJx8e188 : ∀ a, a < 0 → ∀ b, b < 0 → a ≠ b → (TJx8e188 a).2.1 ≠ (TJx8e188 b).2.1 := by decide +kernel
theorem tyJx8e188_ok : ∀ k, k < 0 → parseFieldDescriptor (TJx8e188 k).2.2.1 = some (tyJx8e188 k) := by decide +kernel
def RJxb160c : String := "java/lang/Comparable"
def TJxb160c : u_T := fun k => match k with
  | _ => ("", "", "", false)
def tyJxb160c : Nat → FieldType := fun k => match k with
  | _ => .int
theorem nmJxb160c : ∀ a, a < 0 → ∀ b, b < 0 → a ≠ b → (TJxb160c a).2.1 ≠ (TJxb160c b).2.1 := by decide +kernel
theorem tyJxb160c_ok : ∀ k, k < 0 → parseFieldDescriptor (TJxb160c k).2.2.1 = some (tyJxb160c k) := by decide +kernel
def RJxabbfe : String := "java/lang/Integer$IntegerCache"
def TJxabbfe : u_T := fun k => match k with
  | _ => ("", "", "", false)
def tyJxabbfe : Nat → FieldType := fun k => match k with
  | _ => .int
theorem nmJxabbfe : ∀ a, a < 0 → ∀ b, b < 0 → a ≠ b → (TJxabbfe a).2.1 ≠ (TJxabbfe b).2.1 := by decide +kernel
theorem tyJxabbfe_ok : ∀ k, k < 0 → parseFieldDescriptor (TJxabbfe k).2.2.1 = some (tyJxabbfe k) := by decide +kernel
def RJ6 : String := "java/lang/Integer"
def TJ6 : u_T := fun k => match k with
  | _ => ("java/lang/Integer", "value", "I", true)
def tyJ6 : Nat → FieldType := fun k => match k with
  | _ => .int
theorem nmJ6 : ∀ a, a < 1 → ∀ b, b < 1 → a ≠ b → (TJ6 a).2.1 ≠ (TJ6 b).2.1 := by decide +kernel
theorem tyJ6_ok : ∀ k, k < 1 → parseFieldDescriptor (TJ6 k).2.2.1 = some (tyJ6 k) := by decide +kernel
abbrev cJ6_getChars_ba4f3 : ByteArray := prog_25_method_12_code
def yJ6_getChars_ba4f3 : MethodName := ⟨RJ6, "getChars", "(II[B)I"⟩
abbrev cJ6_stringSize_0f7a4 : ByteArray := prog_25_method_13_code
def yJ6_stringSize_0f7a4 : MethodName := ⟨RJ6, "stringSize", "(I)I"⟩
abbrev cJ6_valueOf_2dffe : ByteArray := prog_25_method_22_code
def yJ6_valueOf_2dffe : MethodName := ⟨RJ6, "valueOf", "(I)Ljava/lang/Integer;"⟩
abbrev cJ6_init_d00df : ByteArray := prog_25_method_23_code
def yJ6_init_d00df : MethodName := ⟨RJ6, "<init>", "(I)V"⟩
abbrev cJ6_intValue_8abf5 : ByteArray := prog_25_method_27_code
def yJ6_intValue_8abf5 : MethodName := ⟨RJ6, "intValue", "()I"⟩
abbrev cJ6_bitCount_0f7a4 : ByteArray := prog_25_method_49_code
def yJ6_bitCount_0f7a4 : MethodName := ⟨RJ6, "bitCount", "(I)I"⟩
abbrev cJ6_signum_0f7a4 : ByteArray := prog_25_method_56_code
def yJ6_signum_0f7a4 : MethodName := ⟨RJ6, "signum", "(I)I"⟩
def RJxab1ab : String := "java/lang/Iterable"
def TJxab1ab : u_T := fun k => match k with
  | _ => ("", "", "", false)
def tyJxab1ab : Nat → FieldType := fun k => match k with
  | _ => .int
theorem nmJxab1ab : ∀ a, a < 0 → ∀ b, b < 0 → a ≠ b → (TJxab1ab a).2.1 ≠ (TJxab1ab b).2.1 := by decide +kernel
theorem tyJxab1ab_ok : ∀ k, k < 0 → parseFieldDescriptor (TJxab1ab k).2.2.1 = some (tyJxab1ab k) := by decide +kernel
def RJ13 : String := "java/lang/Long"
def TJ13 : u_T := fun k => match k with
  | _ => ("", "", "", false)
def tyJ13 : Nat → FieldType := fun k => match k with
  | _ => .int
theorem nmJ13 : ∀ a, a < 0 → ∀ b, b < 0 → a ≠ b → (TJ13 a).2.1 ≠ (TJ13 b).2.1 := by decide +kernel
theorem tyJ13_ok : ∀ k, k < 0 → parseFieldDescriptor (TJ13 k).2.2.1 = some (tyJ13 k) := by decide +kernel
abbrev cJ13_bitCount_95d88 : ByteArray := prog_28_method_50_code
def yJ13_bitCount_95d88 : MethodName := ⟨RJ13, "bitCount", "(J)I"⟩
def RJ9 : String := "java/lang/Math"
def TJ9 : u_T := fun k => match k with
  | _ => ("", "", "", false)
def tyJ9 : Nat → FieldType := fun k => match k with
  | _ => .int
theorem nmJ9 : ∀ a, a < 0 → ∀ b, b < 0 → a ≠ b → (TJ9 a).2.1 ≠ (TJ9 b).2.1 := by decide +kernel
theorem tyJ9_ok : ∀ k, k < 0 → parseFieldDescriptor (TJ9 k).2.2.1 = some (tyJ9 k) := by decide +kernel
abbrev cJ9_abs_0f7a4 : ByteArray := prog_29_method_59_code
def yJ9_abs_0f7a4 : MethodName := ⟨RJ9, "abs", "(I)I"⟩
abbrev cJ9_max_7cf53 : ByteArray := prog_29_method_65_code
def yJ9_max_7cf53 : MethodName := ⟨RJ9, "max", "(II)I"⟩
abbrev cJ9_min_7cf53 : ByteArray := prog_29_method_69_code
def yJ9_min_7cf53 : MethodName := ⟨RJ9, "min", "(II)I"⟩
def RJxd2413 : String := "java/lang/Number"
def TJxd2413 : u_T := fun k => match k with
  | _ => ("", "", "", false)
def tyJxd2413 : Nat → FieldType := fun k => match k with
  | _ => .int
theorem nmJxd2413 : ∀ a, a < 0 → ∀ b, b < 0 → a ≠ b → (TJxd2413 a).2.1 ≠ (TJxd2413 b).2.1 := by decide +kernel
theorem tyJxd2413_ok : ∀ k, k < 0 → parseFieldDescriptor (TJxd2413 k).2.2.1 = some (tyJxd2413 k) := by decide +kernel
abbrev cJxd2413_init_da8c8 : ByteArray := prog_30_method_1_code
def yJxd2413_init_da8c8 : MethodName := ⟨RJxd2413, "<init>", "()V"⟩
def RJ0 : String := "java/lang/String"
def TJ0 : u_T := fun k => match k with
  | 0 => ("java/lang/String", "value", "[B", true)
  | 1 => ("java/lang/String", "coder", "B", true)
  | 2 => ("java/lang/String", "hash", "I", false)
  | _ => ("java/lang/String", "hashIsZero", "Z", false)
def tyJ0 : Nat → FieldType := fun k => match k with
  | 0 => .array .byte
  | 1 => .byte
  | 2 => .int
  | _ => .boolean
theorem nmJ0 : ∀ a, a < 4 → ∀ b, b < 4 → a ≠ b → (TJ0 a).2.1 ≠ (TJ0 b).2.1 := by decide +kernel
theorem tyJ0_ok : ∀ k, k < 4 → parseFieldDescriptor (TJ0 k).2.2.1 = some (tyJ0 k) := by decide +kernel
abbrev cJ0_init_81219 : ByteArray := prog_32_method_53_code
def yJ0_init_81219 : MethodName := ⟨RJ0, "<init>", "(Ljava/lang/StringBuilder;)V"⟩
abbrev cJ0_length_8abf5 : ByteArray := prog_32_method_54_code
def yJ0_length_8abf5 : MethodName := ⟨RJ0, "length", "()I"⟩
abbrev cJ0_getBytes_840e7 : ByteArray := prog_32_method_147_code
def yJ0_getBytes_840e7 : MethodName := ⟨RJ0, "getBytes", "([BIB)V"⟩
abbrev cJ0_init_db425 : ByteArray := prog_32_method_150_code
def yJ0_init_db425 : MethodName := ⟨RJ0, "<init>", "(Ljava/lang/AbstractStringBuilder;Ljava/lang/Void;)V"⟩
abbrev cJ0_coder_7d493 : ByteArray := prog_32_method_152_code
def yJ0_coder_7d493 : MethodName := ⟨RJ0, "coder", "()B"⟩
abbrev cJ0_checkIndex_df160 : ByteArray := prog_32_method_155_code
def yJ0_checkIndex_df160 : MethodName := ⟨RJ0, "checkIndex", "(II)V"⟩
abbrev cJ0_checkBoundsOffCount_cabcc : ByteArray := prog_32_method_157_code
def yJ0_checkBoundsOffCount_cabcc : MethodName := ⟨RJ0, "checkBoundsOffCount", "(III)I"⟩
abbrev cJ0_checkBoundsBeginEnd_23922 : ByteArray := prog_32_method_158_code
def yJ0_checkBoundsBeginEnd_23922 : MethodName := ⟨RJ0, "checkBoundsBeginEnd", "(III)V"⟩
def RJ4 : String := "java/lang/StringBuilder"
def TJ4 : u_T := fun k => match k with
  | 0 => ("java/lang/AbstractStringBuilder", "value", "[B", false)
  | 1 => ("java/lang/AbstractStringBuilder", "coder", "B", false)
  | 2 => ("java/lang/AbstractStringBuilder", "maybeLatin1", "Z", false)
  | _ => ("java/lang/AbstractStringBuilder", "count", "I", false)
def tyJ4 : Nat → FieldType := fun k => match k with
  | 0 => .array .byte
  | 1 => .byte
  | 2 => .boolean
  | _ => .int
theorem nmJ4 : ∀ a, a < 4 → ∀ b, b < 4 → a ≠ b → (TJ4 a).2.1 ≠ (TJ4 b).2.1 := by decide +kernel
theorem tyJ4_ok : ∀ k, k < 4 → parseFieldDescriptor (TJ4 k).2.2.1 = some (tyJ4 k) := by decide +kernel
abbrev cJ4_init_da8c8 : ByteArray := prog_33_method_1_code
def yJ4_init_da8c8 : MethodName := ⟨RJ4, "<init>", "()V"⟩
abbrev cJ4_append_15ec4 : ByteArray := prog_33_method_7_code
def yJ4_append_15ec4 : MethodName := ⟨RJ4, "append", "(Ljava/lang/String;)Ljava/lang/StringBuilder;"⟩
abbrev cJ4_append_cf468 : ByteArray := prog_33_method_14_code
def yJ4_append_cf468 : MethodName := ⟨RJ4, "append", "(C)Ljava/lang/StringBuilder;"⟩
abbrev cJ4_append_bf812 : ByteArray := prog_33_method_15_code
def yJ4_append_bf812 : MethodName := ⟨RJ4, "append", "(I)Ljava/lang/StringBuilder;"⟩
abbrev cJ4_toString_0e30d : ByteArray := prog_33_method_42_code
def yJ4_toString_0e30d : MethodName := ⟨RJ4, "toString", "()Ljava/lang/String;"⟩
abbrev cJ4_length_8abf5 : ByteArray := prog_33_method_93_code
def yJ4_length_8abf5 : MethodName := ⟨RJ4, "length", "()I"⟩
def RJ1 : String := "java/lang/StringLatin1"
def TJ1 : u_T := fun k => match k with
  | _ => ("", "", "", false)
def tyJ1 : Nat → FieldType := fun k => match k with
  | _ => .int
theorem nmJ1 : ∀ a, a < 0 → ∀ b, b < 0 → a ≠ b → (TJ1 a).2.1 ≠ (TJ1 b).2.1 := by decide +kernel
theorem tyJ1_ok : ∀ k, k < 0 → parseFieldDescriptor (TJ1 k).2.2.1 = some (tyJ1 k) := by decide +kernel
abbrev cJ1_canEncode_fc78d : ByteArray := prog_34_method_3_code
def yJ1_canEncode_fc78d : MethodName := ⟨RJ1, "canEncode", "(C)Z"⟩
abbrev cJ1_inflate_0e8fd : ByteArray := prog_34_method_50_code
def yJ1_inflate_0e8fd : MethodName := ⟨RJ1, "inflate", "([BI[BII)V"⟩
def RJ2 : String := "java/lang/StringUTF16"
def TJ2 : u_T := fun k => match k with
  | _ => ("", "", "", false)
def tyJ2 : Nat → FieldType := fun k => match k with
  | _ => .int
theorem nmJ2 : ∀ a, a < 0 → ∀ b, b < 0 → a ≠ b → (TJ2 a).2.1 ≠ (TJ2 b).2.1 := by decide +kernel
theorem tyJ2_ok : ∀ k, k < 0 → parseFieldDescriptor (TJ2 k).2.2.1 = some (tyJ2 k) := by decide +kernel
abbrev cJ2_newBytesFor_77867 : ByteArray := prog_35_method_2_code
def yJ2_newBytesFor_77867 : MethodName := ⟨RJ2, "newBytesFor", "(I)[B"⟩
abbrev cJ2_newBytesLength_0f7a4 : ByteArray := prog_35_method_3_code
def yJ2_newBytesLength_0f7a4 : MethodName := ⟨RJ2, "newBytesLength", "(I)I"⟩
abbrev cJ2_putChar_b72d1 : ByteArray := prog_35_method_4_code
def yJ2_putChar_b72d1 : MethodName := ⟨RJ2, "putChar", "([BII)V"⟩
abbrev cJ2_getChar_3b067 : ByteArray := prog_35_method_5_code
def yJ2_getChar_3b067 : MethodName := ⟨RJ2, "getChar", "([BI)C"⟩
abbrev cJ2_length_9d52b : ByteArray := prog_35_method_6_code
def yJ2_length_9d52b : MethodName := ⟨RJ2, "length", "([B)I"⟩
abbrev cJ2_coderFromArrayLen_85cad : ByteArray := prog_35_method_15_code
def yJ2_coderFromArrayLen_85cad : MethodName := ⟨RJ2, "coderFromArrayLen", "([BI)B"⟩
abbrev cJ2_compress_39247 : ByteArray := prog_35_method_17_code
def yJ2_compress_39247 : MethodName := ⟨RJ2, "compress", "([BII)[B"⟩
abbrev cJ2_compress_5af95 : ByteArray := prog_35_method_22_code
def yJ2_compress_5af95 : MethodName := ⟨RJ2, "compress", "([BI[BII)I"⟩
abbrev cJ2_putCharSB_b72d1 : ByteArray := prog_35_method_71_code
def yJ2_putCharSB_b72d1 : MethodName := ⟨RJ2, "putCharSB", "([BII)V"⟩
abbrev cJ2_getChars_46870 : ByteArray := prog_35_method_77_code
def yJ2_getChars_46870 : MethodName := ⟨RJ2, "getChars", "(III[B)I"⟩
abbrev cJ2_putCharsAt_cd4e5 : ByteArray := prog_35_method_81_code
def yJ2_putCharsAt_cd4e5 : MethodName := ⟨RJ2, "putCharsAt", "([BICCCC)I"⟩
abbrev cJ2_inflate_0e8fd : ByteArray := prog_35_method_86_code
def yJ2_inflate_0e8fd : MethodName := ⟨RJ2, "inflate", "([BI[BII)V"⟩
abbrev cJ2_getChars_ba4f3 : ByteArray := prog_35_method_89_code
def yJ2_getChars_ba4f3 : MethodName := ⟨RJ2, "getChars", "(II[B)I"⟩
abbrev cJ2_checkIndex_2214a : ByteArray := prog_35_method_91_code
def yJ2_checkIndex_2214a : MethodName := ⟨RJ2, "checkIndex", "(I[B)V"⟩
abbrev cJ2_checkBoundsBeginEnd_d044e : ByteArray := prog_35_method_93_code
def yJ2_checkBoundsBeginEnd_d044e : MethodName := ⟨RJ2, "checkBoundsBeginEnd", "(II[B)V"⟩
abbrev cJ2_checkBoundsOffCount_d044e : ByteArray := prog_35_method_94_code
def yJ2_checkBoundsOffCount_d044e : MethodName := ⟨RJ2, "checkBoundsOffCount", "(II[B)V"⟩
def RJ10 : String := "java/lang/System"
def TJ10 : u_T := fun k => match k with
  | _ => ("", "", "", false)
def tyJ10 : Nat → FieldType := fun k => match k with
  | _ => .int
theorem nmJ10 : ∀ a, a < 0 → ∀ b, b < 0 → a ≠ b → (TJ10 a).2.1 ≠ (TJ10 b).2.1 := by decide +kernel
theorem tyJ10_ok : ∀ k, k < 0 → parseFieldDescriptor (TJ10 k).2.2.1 = some (tyJ10 k) := by decide +kernel
def RJxfd54e : String := "java/lang/constant/Constable"
def TJxfd54e : u_T := fun k => match k with
  | _ => ("", "", "", false)
def tyJxfd54e : Nat → FieldType := fun k => match k with
  | _ => .int
theorem nmJxfd54e : ∀ a, a < 0 → ∀ b, b < 0 → a ≠ b → (TJxfd54e a).2.1 ≠ (TJxfd54e b).2.1 := by decide +kernel
theorem tyJxfd54e_ok : ∀ k, k < 0 → parseFieldDescriptor (TJxfd54e k).2.2.1 = some (tyJxfd54e k) := by decide +kernel
def RJx3cf43 : String := "java/lang/constant/ConstantDesc"
def TJx3cf43 : u_T := fun k => match k with
  | _ => ("", "", "", false)
def tyJx3cf43 : Nat → FieldType := fun k => match k with
  | _ => .int
theorem nmJx3cf43 : ∀ a, a < 0 → ∀ b, b < 0 → a ≠ b → (TJx3cf43 a).2.1 ≠ (TJx3cf43 b).2.1 := by decide +kernel
theorem tyJx3cf43_ok : ∀ k, k < 0 → parseFieldDescriptor (TJx3cf43 k).2.2.1 = some (tyJx3cf43 k) := by decide +kernel
def RJxa1e45 : String := "java/util/AbstractCollection"
def TJxa1e45 : u_T := fun k => match k with
  | _ => ("", "", "", false)
def tyJxa1e45 : Nat → FieldType := fun k => match k with
  | _ => .int
theorem nmJxa1e45 : ∀ a, a < 0 → ∀ b, b < 0 → a ≠ b → (TJxa1e45 a).2.1 ≠ (TJxa1e45 b).2.1 := by decide +kernel
theorem tyJxa1e45_ok : ∀ k, k < 0 → parseFieldDescriptor (TJxa1e45 k).2.2.1 = some (tyJxa1e45 k) := by decide +kernel
abbrev cJxa1e45_init_da8c8 : ByteArray := prog_40_method_1_code
def yJxa1e45_init_da8c8 : MethodName := ⟨RJxa1e45, "<init>", "()V"⟩
def RJxc12de : String := "java/util/AbstractList"
def TJxc12de : u_T := fun k => match k with
  | _ => ("", "", "", false)
def tyJxc12de : Nat → FieldType := fun k => match k with
  | _ => .int
theorem nmJxc12de : ∀ a, a < 0 → ∀ b, b < 0 → a ≠ b → (TJxc12de a).2.1 ≠ (TJxc12de b).2.1 := by decide +kernel
theorem tyJxc12de_ok : ∀ k, k < 0 → parseFieldDescriptor (TJxc12de k).2.2.1 = some (tyJxc12de k) := by decide +kernel
abbrev cJxc12de_init_da8c8 : ByteArray := prog_41_method_1_code
def yJxc12de_init_da8c8 : MethodName := ⟨RJxc12de, "<init>", "()V"⟩
def RJx4a65c : String := "java/util/ArrayList"
def TJx4a65c : u_T := fun k => match k with
  | 0 => ("java/util/AbstractList", "modCount", "I", false)
  | 1 => ("java/util/ArrayList", "elementData", "[Ljava/lang/Object;", false)
  | _ => ("java/util/ArrayList", "size", "I", false)
def tyJx4a65c : Nat → FieldType := fun k => match k with
  | 0 => .int
  | 1 => .array (.object "java/lang/Object")
  | _ => .int
theorem nmJx4a65c : ∀ a, a < 3 → ∀ b, b < 3 → a ≠ b → (TJx4a65c a).2.1 ≠ (TJx4a65c b).2.1 := by decide +kernel
theorem tyJx4a65c_ok : ∀ k, k < 3 → parseFieldDescriptor (TJx4a65c k).2.2.1 = some (tyJx4a65c k) := by decide +kernel
abbrev cJx4a65c_init_da8c8 : ByteArray := prog_42_method_2_code
def yJx4a65c_init_da8c8 : MethodName := ⟨RJx4a65c, "<init>", "()V"⟩
abbrev cJx4a65c_grow_92f84 : ByteArray := prog_42_method_6_code
def yJx4a65c_grow_92f84 : MethodName := ⟨RJx4a65c, "grow", "(I)[Ljava/lang/Object;"⟩
abbrev cJx4a65c_grow_d5877 : ByteArray := prog_42_method_7_code
def yJx4a65c_grow_d5877 : MethodName := ⟨RJx4a65c, "grow", "()[Ljava/lang/Object;"⟩
abbrev cJx4a65c_size_8abf5 : ByteArray := prog_42_method_8_code
def yJx4a65c_size_8abf5 : MethodName := ⟨RJx4a65c, "size", "()I"⟩
abbrev cJx4a65c_elementData_915e3 : ByteArray := prog_42_method_18_code
def yJx4a65c_elementData_915e3 : MethodName := ⟨RJx4a65c, "elementData", "(I)Ljava/lang/Object;"⟩
abbrev cJx4a65c_get_915e3 : ByteArray := prog_42_method_20_code
def yJx4a65c_get_915e3 : MethodName := ⟨RJx4a65c, "get", "(I)Ljava/lang/Object;"⟩
abbrev cJx4a65c_add_72be8 : ByteArray := prog_42_method_24_code
def yJx4a65c_add_72be8 : MethodName := ⟨RJx4a65c, "add", "(Ljava/lang/Object;[Ljava/lang/Object;I)V"⟩
abbrev cJx4a65c_add_9ea2d : ByteArray := prog_42_method_25_code
def yJx4a65c_add_9ea2d : MethodName := ⟨RJx4a65c, "add", "(Ljava/lang/Object;)Z"⟩
abbrev cJx4a65c_remove_915e3 : ByteArray := prog_42_method_29_code
def yJx4a65c_remove_915e3 : MethodName := ⟨RJx4a65c, "remove", "(I)Ljava/lang/Object;"⟩
abbrev cJx4a65c_fastRemove_b59b0 : ByteArray := prog_42_method_39_code
def yJx4a65c_fastRemove_b59b0 : MethodName := ⟨RJx4a65c, "fastRemove", "([Ljava/lang/Object;I)V"⟩
def RJ7 : String := "java/util/Arrays"
def TJ7 : u_T := fun k => match k with
  | _ => ("", "", "", false)
def tyJ7 : Nat → FieldType := fun k => match k with
  | _ => .int
theorem nmJ7 : ∀ a, a < 0 → ∀ b, b < 0 → a ≠ b → (TJ7 a).2.1 ≠ (TJ7 b).2.1 := by decide +kernel
theorem tyJ7_ok : ∀ k, k < 0 → parseFieldDescriptor (TJ7 k).2.2.1 = some (tyJ7 k) := by decide +kernel
abbrev cJ7_copyOf_1904c : ByteArray := prog_43_method_119_code
def yJ7_copyOf_1904c : MethodName := ⟨RJ7, "copyOf", "([Ljava/lang/Object;I)[Ljava/lang/Object;"⟩
abbrev cJ7_copyOf_6403c : ByteArray := prog_43_method_120_code
def yJ7_copyOf_6403c : MethodName := ⟨RJ7, "copyOf", "([Ljava/lang/Object;ILjava/lang/Class;)[Ljava/lang/Object;"⟩
abbrev cJ7_copyOf_9075b : ByteArray := prog_43_method_121_code
def yJ7_copyOf_9075b : MethodName := ⟨RJ7, "copyOf", "([BI)[B"⟩
abbrev cJ7_checkLength_df160 : ByteArray := prog_43_method_131_code
def yJ7_checkLength_df160 : MethodName := ⟨RJ7, "checkLength", "(II)V"⟩
abbrev cJ7_copyOfRange_39247 : ByteArray := prog_43_method_132_code
def yJ7_copyOfRange_39247 : MethodName := ⟨RJ7, "copyOfRange", "([BII)[B"⟩
abbrev cJ7_copyOfRangeByte_39247 : ByteArray := prog_43_method_133_code
def yJ7_copyOfRangeByte_39247 : MethodName := ⟨RJ7, "copyOfRangeByte", "([BII)[B"⟩
def RJx5ef63 : String := "java/util/Collection"
def TJx5ef63 : u_T := fun k => match k with
  | _ => ("", "", "", false)
def tyJx5ef63 : Nat → FieldType := fun k => match k with
  | _ => .int
theorem nmJx5ef63 : ∀ a, a < 0 → ∀ b, b < 0 → a ≠ b → (TJx5ef63 a).2.1 ≠ (TJx5ef63 b).2.1 := by decide +kernel
theorem tyJx5ef63_ok : ∀ k, k < 0 → parseFieldDescriptor (TJx5ef63 k).2.2.1 = some (tyJx5ef63 k) := by decide +kernel
def RJxbd725 : String := "java/util/List"
def TJxbd725 : u_T := fun k => match k with
  | _ => ("", "", "", false)
def tyJxbd725 : Nat → FieldType := fun k => match k with
  | _ => .int
theorem nmJxbd725 : ∀ a, a < 0 → ∀ b, b < 0 → a ≠ b → (TJxbd725 a).2.1 ≠ (TJxbd725 b).2.1 := by decide +kernel
theorem tyJxbd725_ok : ∀ k, k < 0 → parseFieldDescriptor (TJxbd725 k).2.2.1 = some (tyJxbd725 k) := by decide +kernel
def RJ15 : String := "java/util/Objects"
def TJ15 : u_T := fun k => match k with
  | _ => ("", "", "", false)
def tyJ15 : Nat → FieldType := fun k => match k with
  | _ => .int
theorem nmJ15 : ∀ a, a < 0 → ∀ b, b < 0 → a ≠ b → (TJ15 a).2.1 ≠ (TJ15 b).2.1 := by decide +kernel
theorem tyJ15_ok : ∀ k, k < 0 → parseFieldDescriptor (TJ15 k).2.2.1 = some (tyJ15 k) := by decide +kernel
abbrev cJ15_checkIndex_7cf53 : ByteArray := prog_46_method_17_code
def yJ15_checkIndex_7cf53 : MethodName := ⟨RJ15, "checkIndex", "(II)I"⟩
def RJxf0a74 : String := "java/util/RandomAccess"
def TJxf0a74 : u_T := fun k => match k with
  | _ => ("", "", "", false)
def tyJxf0a74 : Nat → FieldType := fun k => match k with
  | _ => .int
theorem nmJxf0a74 : ∀ a, a < 0 → ∀ b, b < 0 → a ≠ b → (TJxf0a74 a).2.1 ≠ (TJxf0a74 b).2.1 := by decide +kernel
theorem tyJxf0a74_ok : ∀ k, k < 0 → parseFieldDescriptor (TJxf0a74 k).2.2.1 = some (tyJxf0a74 k) := by decide +kernel
def RJxa66e6 : String := "java/util/SequencedCollection"
def TJxa66e6 : u_T := fun k => match k with
  | _ => ("", "", "", false)
def tyJxa66e6 : Nat → FieldType := fun k => match k with
  | _ => .int
theorem nmJxa66e6 : ∀ a, a < 0 → ∀ b, b < 0 → a ≠ b → (TJxa66e6 a).2.1 ≠ (TJxa66e6 b).2.1 := by decide +kernel
theorem tyJxa66e6_ok : ∀ k, k < 0 → parseFieldDescriptor (TJxa66e6 k).2.2.1 = some (tyJxa66e6 k) := by decide +kernel
def RJ8 : String := "jdk/internal/util/ArraysSupport"
def TJ8 : u_T := fun k => match k with
  | _ => ("", "", "", false)
def tyJ8 : Nat → FieldType := fun k => match k with
  | _ => .int
theorem nmJ8 : ∀ a, a < 0 → ∀ b, b < 0 → a ≠ b → (TJ8 a).2.1 ≠ (TJ8 b).2.1 := by decide +kernel
theorem tyJ8_ok : ∀ k, k < 0 → parseFieldDescriptor (TJ8 k).2.2.1 = some (tyJ8 k) := by decide +kernel
abbrev cJ8_newLength_cabcc : ByteArray := prog_49_method_27_code
def yJ8_newLength_cabcc : MethodName := ⟨RJ8, "newLength", "(III)I"⟩
abbrev cJ8_hugeLength_7cf53 : ByteArray := prog_49_method_28_code
def yJ8_hugeLength_7cf53 : MethodName := ⟨RJ8, "hugeLength", "(II)I"⟩
def RJ3 : String := "jdk/internal/util/Preconditions"
def TJ3 : u_T := fun k => match k with
  | _ => ("", "", "", false)
def tyJ3 : Nat → FieldType := fun k => match k with
  | _ => .int
theorem nmJ3 : ∀ a, a < 0 → ∀ b, b < 0 → a ≠ b → (TJ3 a).2.1 ≠ (TJ3 b).2.1 := by decide +kernel
theorem tyJ3_ok : ∀ k, k < 0 → parseFieldDescriptor (TJ3 k).2.2.1 = some (tyJ3 k) := by decide +kernel
abbrev cJ3_checkIndex_8e157 : ByteArray := prog_50_method_11_code
def yJ3_checkIndex_8e157 : MethodName := ⟨RJ3, "checkIndex", "(IILjava/util/function/BiFunction;)I"⟩
abbrev cJ3_checkFromToIndex_8c36e : ByteArray := prog_50_method_12_code
def yJ3_checkFromToIndex_8c36e : MethodName := ⟨RJ3, "checkFromToIndex", "(IIILjava/util/function/BiFunction;)I"⟩
abbrev cJ3_checkFromIndexSize_8c36e : ByteArray := prog_50_method_13_code
def yJ3_checkFromIndexSize_8c36e : MethodName := ⟨RJ3, "checkFromIndexSize", "(IIILjava/util/function/BiFunction;)I"⟩
def RL : String := "NightwatchWallLaw"
abbrev cL_base : ByteArray := method_2_code
def yL_base : MethodName := ⟨RL, "base", "(LNightwatchWall;IIILNightwatchWallLaw$Out;)I"⟩
abbrev cL_lay : ByteArray := method_3_code
def yL_lay : MethodName := ⟨RL, "lay", "(LNightwatchWall;IILNightwatchWallLaw$Out;)I"⟩
abbrev cL_gates : ByteArray := method_4_code
def yL_gates : MethodName := ⟨RL, "gates", "(LNightwatchWall;IILNightwatchWallLaw$Out;)I"⟩
abbrev cL_lamp : ByteArray := method_5_code
def yL_lamp : MethodName := ⟨RL, "lamp", "(LNightwatchWall;IILNightwatchWallLaw$Out;)I"⟩
abbrev cL_light : ByteArray := method_6_code
def yL_light : MethodName := ⟨RL, "light", "(LNightwatchWall;IZLNightwatchWallLaw$Out;)I"⟩
abbrev cL_fog : ByteArray := method_7_code
def yL_fog : MethodName := ⟨RL, "fog", "(LNightwatchWall;IILNightwatchWallLaw$Out;)I"⟩
abbrev cL_guard : ByteArray := method_8_code
def yL_guard : MethodName := ⟨RL, "guard", "(LNightwatchWall;IIIILNightwatchWallLaw$Out;)I"⟩
abbrev cL_round : ByteArray := method_9_code
def yL_round : MethodName := ⟨RL, "round", "(LNightwatchWall;IILNightwatchWallLaw$Out;)I"⟩
abbrev cL_post : ByteArray := method_10_code
def yL_post : MethodName := ⟨RL, "post", "(LNightwatchWall;ILNightwatchWallLaw$Out;)I"⟩
abbrev cL_place : ByteArray := method_11_code
def yL_place : MethodName := ⟨RL, "place", "(LNightwatchWall;IILNightwatchWallLaw$Out;)I"⟩
abbrev cL_sees : ByteArray := method_12_code
def yL_sees : MethodName := ⟨RL, "sees", "(LNightwatchWall;IIILNightwatchWallLaw$Out;)I"⟩
abbrev cL_ofCell : ByteArray := method_13_code
def yL_ofCell : MethodName := ⟨RL, "ofCell", "(LNightwatchWall;IIILNightwatchWallLaw$Out;)I"⟩
abbrev cL_ofMinute : ByteArray := method_14_code
def yL_ofMinute : MethodName := ⟨RL, "ofMinute", "(LNightwatchWall;IILNightwatchWallLaw$Out;)I"⟩
abbrev cL_empty : ByteArray := method_15_code
def yL_empty : MethodName := ⟨RL, "empty", "(LNightwatchWall;IZLNightwatchWallLaw$Out;)I"⟩
abbrev cL_lapse : ByteArray := method_16_code
def yL_lapse : MethodName := ⟨RL, "lapse", "(LNightwatchWall;IIILNightwatchWallLaw$Out;)I"⟩
abbrev cL_words : ByteArray := method_17_code
def yL_words : MethodName := ⟨RL, "words", "(LNightwatchWall;ILNightwatchWallLaw$Out;)I"⟩
abbrev cL_leak : ByteArray := method_18_code
def yL_leak : MethodName := ⟨RL, "leak", "(LNightwatchWall;ILNightwatchWallLaw$Out;)I"⟩
abbrev cL_answer : ByteArray := method_19_code
def yL_answer : MethodName := ⟨RL, "answer", "(LNightwatchWall;IIILNightwatchWallLaw$Out;)I"⟩
abbrev cL_key : ByteArray := method_20_code
def yL_key : MethodName := ⟨RL, "key", "(LNightwatchWall;IILNightwatchWallLaw$Out;)I"⟩
abbrev cL_ofGuard : ByteArray := method_21_code
def yL_ofGuard : MethodName := ⟨RL, "ofGuard", "(LNightwatchWall;IILNightwatchWallLaw$Out;)I"⟩
abbrev cL_intruder : ByteArray := method_22_code
def yL_intruder : MethodName := ⟨RL, "intruder", "(LNightwatchWall;IIILNightwatchWallLaw$Out;)I"⟩
abbrev cL_wire : ByteArray := method_23_code
def yL_wire : MethodName := ⟨RL, "wire", "(LNightwatchWall;IILNightwatchWallLaw$Out;)I"⟩
abbrev cL_where : ByteArray := method_24_code
def yL_where : MethodName := ⟨RL, "where", "(LNightwatchWall;IILNightwatchWallLaw$Out;)I"⟩
abbrev cL_ofIntruder : ByteArray := method_25_code
def yL_ofIntruder : MethodName := ⟨RL, "ofIntruder", "(LNightwatchWall;IILNightwatchWallLaw$Out;)I"⟩
abbrev cL_force : ByteArray := method_26_code
def yL_force : MethodName := ⟨RL, "force", "(LNightwatchWall;IIILNightwatchWallLaw$Out;)I"⟩
abbrev cL_ofWire : ByteArray := method_27_code
def yL_ofWire : MethodName := ⟨RL, "ofWire", "(LNightwatchWall;IILNightwatchWallLaw$Out;)I"⟩
abbrev cL_sneak : ByteArray := method_28_code
def yL_sneak : MethodName := ⟨RL, "sneak", "(LNightwatchWall;IIIILNightwatchWallLaw$Out;)I"⟩
abbrev cL_reach : ByteArray := method_29_code
def yL_reach : MethodName := ⟨RL, "reach", "(LNightwatchWall;IIILNightwatchWallLaw$Out;)I"⟩
abbrev cL_nextLamp : ByteArray := method_30_code
def yL_nextLamp : MethodName := ⟨RL, "nextLamp", "(LNightwatchWall;IIZLNightwatchWallLaw$Out;)I"⟩
abbrev cL_many : ByteArray := method_31_code
def yL_many : MethodName := ⟨RL, "many", "(LNightwatchWall;ILNightwatchWallLaw$Out;)I"⟩
abbrev cL_drawn : ByteArray := method_32_code
def yL_drawn : MethodName := ⟨RL, "drawn", "(LNightwatchWall;IILNightwatchWallLaw$Out;)I"⟩
abbrev cL_law : ByteArray := code
def yL_law : MethodName := ⟨RL, "law", "([I)Z"⟩
abbrev vwCl : List vw_C := [(RJ0, TJ0, 4), (RJ4, TJ4, 4), (RJ6, TJ6, 1), (RJx4a65c, TJx4a65c, 3), (RX0, TX0, 2), (RX1, TX1, 10), (RX2, TX2, 5), (RX3, TX3, 6), (RX4, TX4, 3), (RX5, TX5, 2), (RX6, TX6, 2), (RX7, TX7, 7), (RX8, TX8, 10), (RX9, TX9, 2), (RX10, TX10, 6), (RX11, TX11, 5), (RX12, TX12, 20)]
