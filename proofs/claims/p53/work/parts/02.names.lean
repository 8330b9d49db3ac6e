def RX0 : String := "RingKiln$1"
def TX0 : u_T := fun k => match k with
  | _ => ("", "", "", false)
def tyX0 : Nat → FieldType := fun k => match k with
  | _ => .int
abbrev wsX00 : List Cond := u_ws RX0 TX0 0
theorem nmX0 : ∀ a, a < 0 → ∀ b, b < 0 → a ≠ b → (TX0 a).2.1 ≠ (TX0 b).2.1 := by decide +kernel
theorem tyX0_ok : ∀ k, k < 0 → parseFieldDescriptor (TX0 k).2.2.1 = some (tyX0 k) := by decide +kernel
def RX1 : String := "RingKiln$Command"
def TX1 : u_T := fun k => match k with
  | _ => ("", "", "", false)
def tyX1 : Nat → FieldType := fun k => match k with
  | _ => .int
abbrev wsX10 : List Cond := u_ws RX1 TX1 0
theorem nmX1 : ∀ a, a < 0 → ∀ b, b < 0 → a ≠ b → (TX1 a).2.1 ≠ (TX1 b).2.1 := by decide +kernel
theorem tyX1_ok : ∀ k, k < 0 → parseFieldDescriptor (TX1 k).2.2.1 = some (tyX1 k) := by decide +kernel
def RX2 : String := "RingKiln$Courses"
def TX2 : u_T := fun k => match k with
  | 0 => ("RingKiln$Courses", "joints", "[[I", true)
  | 1 => ("RingKiln$Courses", "counts", "[I", true)
  | 2 => ("RingKiln$Courses", "ways", "[J", false)
  | 3 => ("RingKiln$Courses", "waysAbove", "[J", false)
  | 4 => ("RingKiln$Courses", "fewest", "[I", false)
  | 5 => ("RingKiln$Courses", "fewestAbove", "[I", false)
  | _ => ("RingKiln$Courses", "memory", "[[J", true)
def tyX2 : Nat → FieldType := fun k => match k with
  | 0 => .array (.array .int)
  | 1 => .array .int
  | 2 => .array .long
  | 3 => .array .long
  | 4 => .array .int
  | 5 => .array .int
  | _ => .array (.array .long)
abbrev wsX20 : List Cond := u_ws RX2 TX2 7
theorem nmX2 : ∀ a, a < 7 → ∀ b, b < 7 → a ≠ b → (TX2 a).2.1 ≠ (TX2 b).2.1 := by decide +kernel
theorem tyX2_ok : ∀ k, k < 7 → parseFieldDescriptor (TX2 k).2.2.1 = some (tyX2 k) := by decide +kernel
abbrev cX2_init : ByteArray := prog_4_method_1_code
def yX2_init : MethodName := ⟨RX2, "<init>", "()V"⟩
abbrev cX2_addCoursesEndingWith : ByteArray := prog_4_method_2_code
def yX2_addCoursesEndingWith : MethodName := ⟨RX2, "addCoursesEndingWith", "(II)V"⟩
abbrev cX2_canLie : ByteArray := prog_4_method_3_code
def yX2_canLie : MethodName := ⟨RX2, "canLie", "(II)Z"⟩
abbrev cX2_countByTable : ByteArray := prog_4_method_4_code
def yX2_countByTable : MethodName := ⟨RX2, "countByTable", "(II)J"⟩
abbrev cX2_addCourseToWays : ByteArray := prog_4_method_5_code
def yX2_addCourseToWays : MethodName := ⟨RX2, "addCourseToWays", "([II)V"⟩
abbrev cX2_countByMemory : ByteArray := prog_4_method_6_code
def yX2_countByMemory : MethodName := ⟨RX2, "countByMemory", "(II)J"⟩
abbrev cX2_countAbove : ByteArray := prog_4_method_7_code
def yX2_countAbove : MethodName := ⟨RX2, "countAbove", "([IIII[[J)J"⟩
abbrev cX2_leastBricks : ByteArray := prog_4_method_8_code
def yX2_leastBricks : MethodName := ⟨RX2, "leastBricks", "(II)I"⟩
abbrev cX2_addCourseToFewest : ByteArray := prog_4_method_9_code
def yX2_addCourseToFewest : MethodName := ⟨RX2, "addCourseToFewest", "([II)V"⟩
abbrev cX2_bricksIn : ByteArray := prog_4_method_10_code
def yX2_bricksIn : MethodName := ⟨RX2, "bricksIn", "(I)I"⟩
def RX3 : String := "RingKiln$History"
def TX3 : u_T := fun k => match k with
  | 0 => ("RingKiln$History", "states", "[LRingKiln$Kiln;", true)
  | 1 => ("RingKiln$History", "oldest", "I", false)
  | _ => ("RingKiln$History", "size", "I", false)
def tyX3 : Nat → FieldType := fun k => match k with
  | 0 => .array (.object "RingKiln$Kiln")
  | 1 => .int
  | _ => .int
abbrev wsX30 : List Cond := u_ws RX3 TX3 3
theorem nmX3 : ∀ a, a < 3 → ∀ b, b < 3 → a ≠ b → (TX3 a).2.1 ≠ (TX3 b).2.1 := by decide +kernel
theorem tyX3_ok : ∀ k, k < 3 → parseFieldDescriptor (TX3 k).2.2.1 = some (tyX3 k) := by decide +kernel
abbrev cX3_init : ByteArray := prog_5_method_1_code
def yX3_init : MethodName := ⟨RX3, "<init>", "()V"⟩
abbrev cX3_remember : ByteArray := prog_5_method_2_code
def yX3_remember : MethodName := ⟨RX3, "remember", "(LRingKiln$Kiln;)V"⟩
abbrev cX3_takeBack : ByteArray := prog_5_method_3_code
def yX3_takeBack : MethodName := ⟨RX3, "takeBack", "(LRingKiln$Kiln;)I"⟩
abbrev cX3_forget : ByteArray := prog_5_method_4_code
def yX3_forget : MethodName := ⟨RX3, "forget", "()V"⟩
def RX4 : String := "RingKiln$Kiln"
def TX4 : u_T := fun k => match k with
  | 0 => ("RingKiln$Kiln", "time", "I", false)
  | 1 => ("RingKiln$Kiln", "fire", "I", false)
  | 2 => ("RingKiln$Kiln", "heat", "I", false)
  | 3 => ("RingKiln$Kiln", "draught", "I", false)
  | 4 => ("RingKiln$Kiln", "states", "[C", true)
  | 5 => ("RingKiln$Kiln", "bricks", "[I", true)
  | 6 => ("RingKiln$Kiln", "temperatures", "[I", true)
  | 7 => ("RingKiln$Kiln", "pieces", "[I", true)
  | 8 => ("RingKiln$Kiln", "prices", "[I", true)
  | 9 => ("RingKiln$Kiln", "stock", "I", false)
  | 10 => ("RingKiln$Kiln", "walls", "I", false)
  | 11 => ("RingKiln$Kiln", "loaded", "I", false)
  | 12 => ("RingKiln$Kiln", "fired", "I", false)
  | 13 => ("RingKiln$Kiln", "used", "I", false)
  | 14 => ("RingKiln$Kiln", "paid", "I", false)
  | 15 => ("RingKiln$Kiln", "fedHeat", "I", false)
  | _ => ("RingKiln$Kiln", "burntHeat", "I", false)
def tyX4 : Nat → FieldType := fun k => match k with
  | 0 => .int
  | 1 => .int
  | 2 => .int
  | 3 => .int
  | 4 => .array .char
  | 5 => .array .int
  | 6 => .array .int
  | 7 => .array .int
  | 8 => .array .int
  | 9 => .int
  | 10 => .int
  | 11 => .int
  | 12 => .int
  | 13 => .int
  | 14 => .int
  | 15 => .int
  | _ => .int
abbrev wsX40 : List Cond := u_ws RX4 TX4 17
theorem nmX4 : ∀ a, a < 17 → ∀ b, b < 17 → a ≠ b → (TX4 a).2.1 ≠ (TX4 b).2.1 := by decide +kernel
theorem tyX4_ok : ∀ k, k < 17 → parseFieldDescriptor (TX4 k).2.2.1 = some (tyX4 k) := by decide +kernel
abbrev cX4_init : ByteArray := prog_6_method_1_code
def yX4_init : MethodName := ⟨RX4, "<init>", "()V"⟩
abbrev cX4_copyFrom : ByteArray := prog_6_method_2_code
def yX4_copyFrom : MethodName := ⟨RX4, "copyFrom", "(LRingKiln$Kiln;)V"⟩
abbrev cX4_fireIsLit : ByteArray := prog_6_method_3_code
def yX4_fireIsLit : MethodName := ⟨RX4, "fireIsLit", "()Z"⟩
abbrev cX4_isCool : ByteArray := prog_6_method_4_code
def yX4_isCool : MethodName := ⟨RX4, "isCool", "(I)Z"⟩
abbrev cX4_countIn : ByteArray := prog_6_method_5_code
def yX4_countIn : MethodName := ⟨RX4, "countIn", "(C)I"⟩
abbrev cX4_bricksInSight : ByteArray := prog_6_method_6_code
def yX4_bricksInSight : MethodName := ⟨RX4, "bricksInSight", "()I"⟩
abbrev cX4_sumOfTemperatures : ByteArray := prog_6_method_7_code
def yX4_sumOfTemperatures : MethodName := ⟨RX4, "sumOfTemperatures", "()I"⟩
abbrev cX4_chamberRanked : ByteArray := prog_6_method_8_code
def yX4_chamberRanked : MethodName := ⟨RX4, "chamberRanked", "(I)I"⟩
abbrev cX4_rankOf : ByteArray := prog_6_method_9_code
def yX4_rankOf : MethodName := ⟨RX4, "rankOf", "(I)I"⟩
abbrev cX4_comesBefore : ByteArray := prog_6_method_10_code
def yX4_comesBefore : MethodName := ⟨RX4, "comesBefore", "(II)Z"⟩
abbrev cX4_writeChamber : ByteArray := prog_6_method_11_code
def yX4_writeChamber : MethodName := ⟨RX4, "writeChamber", "(ILjava/lang/StringBuilder;)V"⟩
abbrev cX4_fillChamber : ByteArray := prog_6_method_12_code
def yX4_fillChamber : MethodName := ⟨RX4, "fillChamber", "(II)I"⟩
abbrev cX4_emptyChamber : ByteArray := prog_6_method_13_code
def yX4_emptyChamber : MethodName := ⟨RX4, "emptyChamber", "(I)I"⟩
abbrev cX4_lightFire : ByteArray := prog_6_method_14_code
def yX4_lightFire : MethodName := ⟨RX4, "lightFire", "(I)I"⟩
abbrev cX4_putFireOut : ByteArray := prog_6_method_15_code
def yX4_putFireOut : MethodName := ⟨RX4, "putFireOut", "()I"⟩
abbrev cX4_changeDraught : ByteArray := prog_6_method_16_code
def yX4_changeDraught : MethodName := ⟨RX4, "changeDraught", "(I)I"⟩
abbrev cX4_addPieces : ByteArray := prog_6_method_17_code
def yX4_addPieces : MethodName := ⟨RX4, "addPieces", "(II)I"⟩
abbrev cX4_changePrice : ByteArray := prog_6_method_18_code
def yX4_changePrice : MethodName := ⟨RX4, "changePrice", "(II)I"⟩
abbrev cX4_burnMixture : ByteArray := prog_6_method_19_code
def yX4_burnMixture : MethodName := ⟨RX4, "burnMixture", "(ILRingKiln$Mixer;)I"⟩
abbrev cX4_layWall : ByteArray := prog_6_method_20_code
def yX4_layWall : MethodName := ⟨RX4, "layWall", "(IILRingKiln$Courses;)I"⟩
abbrev cX4_hoursTillFireIsOut : ByteArray := prog_6_method_21_code
def yX4_hoursTillFireIsOut : MethodName := ⟨RX4, "hoursTillFireIsOut", "()I"⟩
abbrev cX4_hoursTillCool : ByteArray := prog_6_method_22_code
def yX4_hoursTillCool : MethodName := ⟨RX4, "hoursTillCool", "(I)I"⟩
abbrev cX4_letHoursPass : ByteArray := prog_6_method_23_code
def yX4_letHoursPass : MethodName := ⟨RX4, "letHoursPass", "(I)I"⟩
abbrev cX4_passOneHour : ByteArray := prog_6_method_24_code
def yX4_passOneHour : MethodName := ⟨RX4, "passOneHour", "()V"⟩
abbrev cX4_heatChambers : ByteArray := prog_6_method_25_code
def yX4_heatChambers : MethodName := ⟨RX4, "heatChambers", "()V"⟩
abbrev cX4_coolChambers : ByteArray := prog_6_method_26_code
def yX4_coolChambers : MethodName := ⟨RX4, "coolChambers", "()V"⟩
abbrev cX4_finishChamber : ByteArray := prog_6_method_27_code
def yX4_finishChamber : MethodName := ⟨RX4, "finishChamber", "()V"⟩
abbrev cX4_chamberAfter : ByteArray := prog_6_method_28_code
def yX4_chamberAfter : MethodName := ⟨RX4, "chamberAfter", "(I)I"⟩
def RX5 : String := "RingKiln$Mixer"
def TX5 : u_T := fun k => match k with
  | 0 => ("RingKiln$Mixer", "lowest", "[I", true)
  | 1 => ("RingKiln$Mixer", "best", "[I", true)
  | 2 => ("RingKiln$Mixer", "bestCost", "I", false)
  | 3 => ("RingKiln$Mixer", "bestHeat", "I", false)
  | _ => ("RingKiln$Mixer", "found", "Z", false)
def tyX5 : Nat → FieldType := fun k => match k with
  | 0 => .array .int
  | 1 => .array .int
  | 2 => .int
  | 3 => .int
  | _ => .boolean
abbrev wsX50 : List Cond := u_ws RX5 TX5 5
theorem nmX5 : ∀ a, a < 5 → ∀ b, b < 5 → a ≠ b → (TX5 a).2.1 ≠ (TX5 b).2.1 := by decide +kernel
theorem tyX5_ok : ∀ k, k < 5 → parseFieldDescriptor (TX5 k).2.2.1 = some (tyX5 k) := by decide +kernel
abbrev cX5_init : ByteArray := prog_7_method_1_code
def yX5_init : MethodName := ⟨RX5, "<init>", "()V"⟩
abbrev cX5_cheapestByTable : ByteArray := prog_7_method_2_code
def yX5_cheapestByTable : MethodName := ⟨RX5, "cheapestByTable", "([I[II)I"⟩
abbrev cX5_extendTable : ByteArray := prog_7_method_3_code
def yX5_extendTable : MethodName := ⟨RX5, "extendTable", "(IIII)V"⟩
abbrev cX5_findBest : ByteArray := prog_7_method_4_code
def yX5_findBest : MethodName := ⟨RX5, "findBest", "([I[II)Z"⟩
abbrev cX5_piecesFor : ByteArray := prog_7_method_5_code
def yX5_piecesFor : MethodName := ⟨RX5, "piecesFor", "(II)I"⟩
abbrev cX5_considerMixture : ByteArray := prog_7_method_6_code
def yX5_considerMixture : MethodName := ⟨RX5, "considerMixture", "(III[I)V"⟩
abbrev cX5_isBetter : ByteArray := prog_7_method_7_code
def yX5_isBetter : MethodName := ⟨RX5, "isBetter", "(IIII)Z"⟩
def RX6 : String := "RingKiln$Program"
def TX6 : u_T := fun k => match k with
  | 0 => ("RingKiln$Program", "text", "[C", true)
  | 1 => ("RingKiln$Program", "length", "I", false)
  | 2 => ("RingKiln$Program", "position", "I", false)
  | 3 => ("RingKiln$Program", "commands", "[LRingKiln$Command;", true)
  | 4 => ("RingKiln$Program", "firsts", "[I", true)
  | 5 => ("RingKiln$Program", "seconds", "[I", true)
  | 6 => ("RingKiln$Program", "count", "I", false)
  | 7 => ("RingKiln$Program", "values", "[I", true)
  | _ => ("RingKiln$Program", "valueCount", "I", false)
def tyX6 : Nat → FieldType := fun k => match k with
  | 0 => .array .char
  | 1 => .int
  | 2 => .int
  | 3 => .array (.object "RingKiln$Command")
  | 4 => .array .int
  | 5 => .array .int
  | 6 => .int
  | 7 => .array .int
  | _ => .int
abbrev wsX60 : List Cond := u_ws RX6 TX6 9
theorem nmX6 : ∀ a, a < 9 → ∀ b, b < 9 → a ≠ b → (TX6 a).2.1 ≠ (TX6 b).2.1 := by decide +kernel
theorem tyX6_ok : ∀ k, k < 9 → parseFieldDescriptor (TX6 k).2.2.1 = some (tyX6 k) := by decide +kernel
abbrev cX6_init : ByteArray := prog_8_method_1_code
def yX6_init : MethodName := ⟨RX6, "<init>", "()V"⟩
abbrev cX6_addCharacter : ByteArray := prog_8_method_2_code
def yX6_addCharacter : MethodName := ⟨RX6, "addCharacter", "(C)I"⟩
abbrev cX6_clearText : ByteArray := prog_8_method_3_code
def yX6_clearText : MethodName := ⟨RX6, "clearText", "()V"⟩
abbrev cX6_readText : ByteArray := prog_8_method_4_code
def yX6_readText : MethodName := ⟨RX6, "readText", "()Z"⟩
abbrev cX6_readCommand : ByteArray := prog_8_method_5_code
def yX6_readCommand : MethodName := ⟨RX6, "readCommand", "()Z"⟩
abbrev cX6_keepCommand : ByteArray := prog_8_method_6_code
def yX6_keepCommand : MethodName := ⟨RX6, "keepCommand", "(LRingKiln$Command;)V"⟩
abbrev cX6_followPattern : ByteArray := prog_8_method_7_code
def yX6_followPattern : MethodName := ⟨RX6, "followPattern", "(Ljava/lang/String;)Z"⟩
abbrev cX6_readCharacter : ByteArray := prog_8_method_8_code
def yX6_readCharacter : MethodName := ⟨RX6, "readCharacter", "(C)Z"⟩
abbrev cX6_readNumber : ByteArray := prog_8_method_9_code
def yX6_readNumber : MethodName := ⟨RX6, "readNumber", "()Z"⟩
abbrev cX6_isDigit : ByteArray := prog_8_method_10_code
def yX6_isDigit : MethodName := ⟨RX6, "isDigit", "(C)Z"⟩
abbrev cX6_addValue : ByteArray := prog_8_method_11_code
def yX6_addValue : MethodName := ⟨RX6, "addValue", "(I)V"⟩
def RX7 : String := "RingKiln"
def TX7 : u_T := fun k => match k with
  | 0 => ("RingKiln", "kiln", "LRingKiln$Kiln;", true)
  | 1 => ("RingKiln", "before", "LRingKiln$Kiln;", true)
  | 2 => ("RingKiln", "forecast", "LRingKiln$Kiln;", true)
  | 3 => ("RingKiln", "saved", "LRingKiln$Kiln;", true)
  | 4 => ("RingKiln", "hasSaved", "Z", false)
  | 5 => ("RingKiln", "history", "LRingKiln$History;", true)
  | 6 => ("RingKiln", "mixer", "LRingKiln$Mixer;", true)
  | 7 => ("RingKiln", "courseBook", "LRingKiln$Courses;", true)
  | 8 => ("RingKiln", "program", "LRingKiln$Program;", true)
  | 9 => ("RingKiln", "line", "Ljava/lang/StringBuilder;", true)
  | 10 => ("RingKiln", "lastErrorPosition", "I", false)
  | _ => ("RingKiln", "lastFailedCommand", "I", false)
def tyX7 : Nat → FieldType := fun k => match k with
  | 0 => .object "RingKiln$Kiln"
  | 1 => .object "RingKiln$Kiln"
  | 2 => .object "RingKiln$Kiln"
  | 3 => .object "RingKiln$Kiln"
  | 4 => .boolean
  | 5 => .object "RingKiln$History"
  | 6 => .object "RingKiln$Mixer"
  | 7 => .object "RingKiln$Courses"
  | 8 => .object "RingKiln$Program"
  | 9 => .object "java/lang/StringBuilder"
  | 10 => .int
  | _ => .int
abbrev wsX70 : List Cond := u_ws RX7 TX7 12
theorem nmX7 : ∀ a, a < 12 → ∀ b, b < 12 → a ≠ b → (TX7 a).2.1 ≠ (TX7 b).2.1 := by decide +kernel
theorem tyX7_ok : ∀ k, k < 12 → parseFieldDescriptor (TX7 k).2.2.1 = some (tyX7 k) := by decide +kernel
abbrev cX7_init : ByteArray := prog_1_method_1_code
def yX7_init : MethodName := ⟨RX7, "<init>", "()V"⟩
abbrev cX7_load : ByteArray := prog_1_method_2_code
def yX7_load : MethodName := ⟨RX7, "load", "(II)I"⟩
abbrev cX7_unload : ByteArray := prog_1_method_3_code
def yX7_unload : MethodName := ⟨RX7, "unload", "(I)I"⟩
abbrev cX7_light : ByteArray := prog_1_method_4_code
def yX7_light : MethodName := ⟨RX7, "light", "(I)I"⟩
abbrev cX7_quench : ByteArray := prog_1_method_5_code
def yX7_quench : MethodName := ⟨RX7, "quench", "()I"⟩
abbrev cX7_setDraught : ByteArray := prog_1_method_6_code
def yX7_setDraught : MethodName := ⟨RX7, "setDraught", "(I)I"⟩
abbrev cX7_passHours : ByteArray := prog_1_method_7_code
def yX7_passHours : MethodName := ⟨RX7, "passHours", "(I)I"⟩
abbrev cX7_addFuel : ByteArray := prog_1_method_8_code
def yX7_addFuel : MethodName := ⟨RX7, "addFuel", "(CI)I"⟩
abbrev cX7_setPrice : ByteArray := prog_1_method_9_code
def yX7_setPrice : MethodName := ⟨RX7, "setPrice", "(CI)I"⟩
abbrev cX7_feed : ByteArray := prog_1_method_10_code
def yX7_feed : MethodName := ⟨RX7, "feed", "(I)I"⟩
abbrev cX7_buildWall : ByteArray := prog_1_method_11_code
def yX7_buildWall : MethodName := ⟨RX7, "buildWall", "(II)I"⟩
abbrev cX7_time : ByteArray := prog_1_method_12_code
def yX7_time : MethodName := ⟨RX7, "time", "()I"⟩
abbrev cX7_isLit : ByteArray := prog_1_method_13_code
def yX7_isLit : MethodName := ⟨RX7, "isLit", "()Z"⟩
abbrev cX7_fireChamber : ByteArray := prog_1_method_14_code
def yX7_fireChamber : MethodName := ⟨RX7, "fireChamber", "()I"⟩
abbrev cX7_heat : ByteArray := prog_1_method_15_code
def yX7_heat : MethodName := ⟨RX7, "heat", "()I"⟩
abbrev cX7_draught : ByteArray := prog_1_method_16_code
def yX7_draught : MethodName := ⟨RX7, "draught", "()I"⟩
abbrev cX7_state : ByteArray := prog_1_method_17_code
def yX7_state : MethodName := ⟨RX7, "state", "(I)C"⟩
abbrev cX7_bricks : ByteArray := prog_1_method_18_code
def yX7_bricks : MethodName := ⟨RX7, "bricks", "(I)I"⟩
abbrev cX7_temperature : ByteArray := prog_1_method_19_code
def yX7_temperature : MethodName := ⟨RX7, "temperature", "(I)I"⟩
abbrev cX7_chamberAtRank : ByteArray := prog_1_method_20_code
def yX7_chamberAtRank : MethodName := ⟨RX7, "chamberAtRank", "(I)I"⟩
abbrev cX7_chambersIn : ByteArray := prog_1_method_21_code
def yX7_chambersIn : MethodName := ⟨RX7, "chambersIn", "(C)I"⟩
abbrev cX7_hoursUntilOut : ByteArray := prog_1_method_22_code
def yX7_hoursUntilOut : MethodName := ⟨RX7, "hoursUntilOut", "()I"⟩
abbrev cX7_hoursUntilCool : ByteArray := prog_1_method_23_code
def yX7_hoursUntilCool : MethodName := ⟨RX7, "hoursUntilCool", "(I)I"⟩
abbrev cX7_firedIn : ByteArray := prog_1_method_24_code
def yX7_firedIn : MethodName := ⟨RX7, "firedIn", "(I)I"⟩
abbrev cX7_fuel : ByteArray := prog_1_method_25_code
def yX7_fuel : MethodName := ⟨RX7, "fuel", "(C)I"⟩
abbrev cX7_price : ByteArray := prog_1_method_26_code
def yX7_price : MethodName := ⟨RX7, "price", "(C)I"⟩
abbrev cX7_lowestCost : ByteArray := prog_1_method_27_code
def yX7_lowestCost : MethodName := ⟨RX7, "lowestCost", "(I)I"⟩
abbrev cX7_lowestCostByTrying : ByteArray := prog_1_method_28_code
def yX7_lowestCostByTrying : MethodName := ⟨RX7, "lowestCostByTrying", "(I)I"⟩
abbrev cX7_piecesInMixture : ByteArray := prog_1_method_29_code
def yX7_piecesInMixture : MethodName := ⟨RX7, "piecesInMixture", "(CI)I"⟩
abbrev cX7_courseCount : ByteArray := prog_1_method_30_code
def yX7_courseCount : MethodName := ⟨RX7, "courseCount", "(I)I"⟩
abbrev cX7_wallCount : ByteArray := prog_1_method_31_code
def yX7_wallCount : MethodName := ⟨RX7, "wallCount", "(II)J"⟩
abbrev cX7_wallCountByMemory : ByteArray := prog_1_method_32_code
def yX7_wallCountByMemory : MethodName := ⟨RX7, "wallCountByMemory", "(II)J"⟩
abbrev cX7_fewestBricks : ByteArray := prog_1_method_33_code
def yX7_fewestBricks : MethodName := ⟨RX7, "fewestBricks", "(II)I"⟩
abbrev cX7_stock : ByteArray := prog_1_method_34_code
def yX7_stock : MethodName := ⟨RX7, "stock", "()I"⟩
abbrev cX7_walls : ByteArray := prog_1_method_35_code
def yX7_walls : MethodName := ⟨RX7, "walls", "()I"⟩
abbrev cX7_brickTotal : ByteArray := prog_1_method_36_code
def yX7_brickTotal : MethodName := ⟨RX7, "brickTotal", "()I"⟩
abbrev cX7_brickTotalByAccounts : ByteArray := prog_1_method_37_code
def yX7_brickTotalByAccounts : MethodName := ⟨RX7, "brickTotalByAccounts", "()I"⟩
abbrev cX7_paidTotal : ByteArray := prog_1_method_38_code
def yX7_paidTotal : MethodName := ⟨RX7, "paidTotal", "()I"⟩
abbrev cX7_meanTemperature : ByteArray := prog_1_method_39_code
def yX7_meanTemperature : MethodName := ⟨RX7, "meanTemperature", "()D"⟩
abbrev cX7_isConsistent : ByteArray := prog_1_method_41_code
def yX7_isConsistent : MethodName := ⟨RX7, "isConsistent", "()Z"⟩
abbrev cX7_append : ByteArray := prog_1_method_42_code
def yX7_append : MethodName := ⟨RX7, "append", "(C)I"⟩
abbrev cX7_run : ByteArray := prog_1_method_43_code
def yX7_run : MethodName := ⟨RX7, "run", "()I"⟩
abbrev cX7_failedCommand : ByteArray := prog_1_method_45_code
def yX7_failedCommand : MethodName := ⟨RX7, "failedCommand", "()I"⟩
abbrev cX7_writeRing : ByteArray := prog_1_method_46_code
def yX7_writeRing : MethodName := ⟨RX7, "writeRing", "()I"⟩
abbrev cX7_undo : ByteArray := prog_1_method_49_code
def yX7_undo : MethodName := ⟨RX7, "undo", "()I"⟩
abbrev cX7_save : ByteArray := prog_1_method_50_code
def yX7_save : MethodName := ⟨RX7, "save", "()V"⟩
abbrev cX7_restore : ByteArray := prog_1_method_51_code
def yX7_restore : MethodName := ⟨RX7, "restore", "()V"⟩
abbrev cX7_isOutside : ByteArray := prog_1_method_52_code
def yX7_isOutside : MethodName := ⟨RX7, "isOutside", "(III)Z"⟩
abbrev cX7_needWithin : ByteArray := prog_1_method_53_code
def yX7_needWithin : MethodName := ⟨RX7, "needWithin", "(III)V"⟩
abbrev cX7_needWidth : ByteArray := prog_1_method_54_code
def yX7_needWidth : MethodName := ⟨RX7, "needWidth", "(I)V"⟩
abbrev cX7_needChamber : ByteArray := prog_1_method_55_code
def yX7_needChamber : MethodName := ⟨RX7, "needChamber", "(I)V"⟩
abbrev cX7_isChamber : ByteArray := prog_1_method_56_code
def yX7_isChamber : MethodName := ⟨RX7, "isChamber", "(I)Z"⟩
abbrev cX7_neededKind : ByteArray := prog_1_method_57_code
def yX7_neededKind : MethodName := ⟨RX7, "neededKind", "(C)I"⟩
abbrev cX7_kindIndex : ByteArray := prog_1_method_58_code
def yX7_kindIndex : MethodName := ⟨RX7, "kindIndex", "(I)I"⟩
abbrev cX7_answerOf : ByteArray := prog_1_method_59_code
def yX7_answerOf : MethodName := ⟨RX7, "answerOf", "(I)I"⟩
abbrev cX7_change : ByteArray := prog_1_method_60_code
def yX7_change : MethodName := ⟨RX7, "change", "(LRingKiln$Command;II)I"⟩
abbrev cX7_carryOut : ByteArray := prog_1_method_61_code
def yX7_carryOut : MethodName := ⟨RX7, "carryOut", "(LRingKiln$Command;II)I"⟩
abbrev cX7_carryOutCommands : ByteArray := prog_1_method_62_code
def yX7_carryOutCommands : MethodName := ⟨RX7, "carryOutCommands", "()I"⟩
abbrev cX7_costByTable : ByteArray := prog_1_method_63_code
def yX7_costByTable : MethodName := ⟨RX7, "costByTable", "(I)I"⟩
abbrev cX7_costByTrying : ByteArray := prog_1_method_64_code
def yX7_costByTrying : MethodName := ⟨RX7, "costByTrying", "(I)I"⟩
def RX8 : String := "RingKilnModel"
def TX8 : u_T := fun k => match k with
  | _ => ("", "", "", false)
def tyX8 : Nat → FieldType := fun k => match k with
  | _ => .int
abbrev wsX80 : List Cond := u_ws RX8 TX8 0
theorem nmX8 : ∀ a, a < 0 → ∀ b, b < 0 → a ≠ b → (TX8 a).2.1 ≠ (TX8 b).2.1 := by decide +kernel
theorem tyX8_ok : ∀ k, k < 0 → parseFieldDescriptor (TX8 k).2.2.1 = some (tyX8 k) := by decide +kernel
def RJx145de : String := "java/io/Serializable"
def TJx145de : u_T := fun k => match k with
  | _ => ("", "", "", false)
def tyJx145de : Nat → FieldType := fun k => match k with
  | _ => .int
abbrev wsJx145de0 : List Cond := u_ws RJx145de TJx145de 0
theorem nmJx145de : ∀ a, a < 0 → ∀ b, b < 0 → a ≠ b → (TJx145de a).2.1 ≠ (TJx145de b).2.1 := by decide +kernel
theorem tyJx145de_ok : ∀ k, k < 0 → parseFieldDescriptor (TJx145de k).2.2.1 = some (tyJx145de k) := by decide +kernel
def RJ5 : String := "java/lang/AbstractStringBuilder"
def TJ5 : u_T := fun k => match k with
  | _ => ("", "", "", false)
def tyJ5 : Nat → FieldType := fun k => match k with
  | _ => .int
abbrev wsJ50 : List Cond := u_ws RJ5 TJ5 0
theorem nmJ5 : ∀ a, a < 0 → ∀ b, b < 0 → a ≠ b → (TJ5 a).2.1 ≠ (TJ5 b).2.1 := by decide +kernel
theorem tyJ5_ok : ∀ k, k < 0 → parseFieldDescriptor (TJ5 k).2.2.1 = some (tyJ5 k) := by decide +kernel
abbrev cJ5_init_d00df : ByteArray := prog_12_method_2_code
def yJ5_init_d00df : MethodName := ⟨RJ5, "<init>", "(I)V"⟩
abbrev cJ5_length_8abf5 : ByteArray := prog_12_method_6_code
def yJ5_length_8abf5 : MethodName := ⟨RJ5, "length", "()I"⟩
abbrev cJ5_ensureCapacityInternal_d00df : ByteArray := prog_12_method_9_code
def yJ5_ensureCapacityInternal_d00df : MethodName := ⟨RJ5, "ensureCapacityInternal", "(I)V"⟩
abbrev cJ5_newCapacity_0f7a4 : ByteArray := prog_12_method_10_code
def yJ5_newCapacity_0f7a4 : MethodName := ⟨RJ5, "newCapacity", "(I)I"⟩
abbrev cJ5_inflate_da8c8 : ByteArray := prog_12_method_11_code
def yJ5_inflate_da8c8 : MethodName := ⟨RJ5, "inflate", "()V"⟩
abbrev cJ5_setLength_d00df : ByteArray := prog_12_method_13_code
def yJ5_setLength_d00df : MethodName := ⟨RJ5, "setLength", "(I)V"⟩
abbrev cJ5_append_cf1ce : ByteArray := prog_12_method_22_code
def yJ5_append_cf1ce : MethodName := ⟨RJ5, "append", "(Ljava/lang/String;)Ljava/lang/AbstractStringBuilder;"⟩
abbrev cJ5_appendNull_278bc : ByteArray := prog_12_method_26_code
def yJ5_appendNull_278bc : MethodName := ⟨RJ5, "appendNull", "()Ljava/lang/AbstractStringBuilder;"⟩
abbrev cJ5_append_3fe6f : ByteArray := prog_12_method_31_code
def yJ5_append_3fe6f : MethodName := ⟨RJ5, "append", "(C)Ljava/lang/AbstractStringBuilder;"⟩
abbrev cJ5_append_c97b9 : ByteArray := prog_12_method_32_code
def yJ5_append_c97b9 : MethodName := ⟨RJ5, "append", "(I)Ljava/lang/AbstractStringBuilder;"⟩
abbrev cJ5_getValue_6d5f1 : ByteArray := prog_12_method_64_code
def yJ5_getValue_6d5f1 : MethodName := ⟨RJ5, "getValue", "()[B"⟩
abbrev cJ5_isLatin1_aae02 : ByteArray := prog_12_method_68_code
def yJ5_isLatin1_aae02 : MethodName := ⟨RJ5, "isLatin1", "()Z"⟩
abbrev cJ5_inflateIfNeededFor_a7421 : ByteArray := prog_12_method_71_code
def yJ5_inflateIfNeededFor_a7421 : MethodName := ⟨RJ5, "inflateIfNeededFor", "(Ljava/lang/String;)V"⟩
abbrev cJ5_putStringAt_47b60 : ByteArray := prog_12_method_73_code
def yJ5_putStringAt_47b60 : MethodName := ⟨RJ5, "putStringAt", "(ILjava/lang/String;)V"⟩
def RJx2cfe8 : String := "java/lang/Appendable"
def TJx2cfe8 : u_T := fun k => match k with
  | _ => ("", "", "", false)
def tyJx2cfe8 : Nat → FieldType := fun k => match k with
  | _ => .int
abbrev wsJx2cfe80 : List Cond := u_ws RJx2cfe8 TJx2cfe8 0
theorem nmJx2cfe8 : ∀ a, a < 0 → ∀ b, b < 0 → a ≠ b → (TJx2cfe8 a).2.1 ≠ (TJx2cfe8 b).2.1 := by decide +kernel
theorem tyJx2cfe8_ok : ∀ k, k < 0 → parseFieldDescriptor (TJx2cfe8 k).2.2.1 = some (tyJx2cfe8 k) := by decide +kernel
def RJx00060 : String := "java/lang/ArrayIndexOutOfBoundsException"
def TJx00060 : u_T := fun k => match k with
  | 0 => ("java/lang/Throwable", "backtrace", "Ljava/lang/Object;", false)
  | 1 => ("java/lang/Throwable", "detailMessage", "Ljava/lang/String;", false)
  | 2 => ("java/lang/Throwable", "cause", "Ljava/lang/Throwable;", false)
  | 3 => ("java/lang/Throwable", "stackTrace", "[Ljava/lang/StackTraceElement;", false)
  | 4 => ("java/lang/Throwable", "depth", "I", false)
  | _ => ("java/lang/Throwable", "suppressedExceptions", "Ljava/util/List;", false)
def tyJx00060 : Nat → FieldType := fun k => match k with
  | 0 => .object "java/lang/Object"
  | 1 => .object "java/lang/String"
  | 2 => .object "java/lang/Throwable"
  | 3 => .array (.object "java/lang/StackTraceElement")
  | 4 => .int
  | _ => .object "java/util/List"
abbrev wsJx000600 : List Cond := u_ws RJx00060 TJx00060 6
theorem nmJx00060 : ∀ a, a < 6 → ∀ b, b < 6 → a ≠ b → (TJx00060 a).2.1 ≠ (TJx00060 b).2.1 := by decide +kernel
theorem tyJx00060_ok : ∀ k, k < 6 → parseFieldDescriptor (TJx00060 k).2.2.1 = some (tyJx00060 k) := by decide +kernel
abbrev cJx00060_init_a7421 : ByteArray := prog_14_method_2_code
def yJx00060_init_a7421 : MethodName := ⟨RJx00060, "<init>", "(Ljava/lang/String;)V"⟩
abbrev cJx00060_init_d00df : ByteArray := prog_14_method_3_code
def yJx00060_init_d00df : MethodName := ⟨RJx00060, "<init>", "(I)V"⟩
def RJx9f9b0 : String := "java/lang/CharSequence"
def TJx9f9b0 : u_T := fun k => match k with
  | _ => ("", "", "", false)
def tyJx9f9b0 : Nat → FieldType := fun k => match k with
  | _ => .int
abbrev wsJx9f9b00 : List Cond := u_ws RJx9f9b0 TJx9f9b0 0
theorem nmJx9f9b0 : ∀ a, a < 0 → ∀ b, b < 0 → a ≠ b → (TJx9f9b0 a).2.1 ≠ (TJx9f9b0 b).2.1 := by decide +kernel
theorem tyJx9f9b0_ok : ∀ k, k < 0 → parseFieldDescriptor (TJx9f9b0 k).2.2.1 = some (tyJx9f9b0 k) := by decide +kernel
def RJx8e188 : String := "java/lang/Cloneable"
def TJx8e188 : u_T := fun k => match k with
  | _ => ("", "", "", false)
def tyJx8e188 : Nat → FieldType := fun k => match k with
  | _ => .int
abbrev wsJx8e1880 : List Cond := u_ws RJx8e188 TJx8e188 0
theorem nmJx8e188 : ∀ a, a < 0 → ∀ b, b < 0 → a ≠ b → (TJx8e188 a).2.1 ≠ (TJx8e188 b).2.1 := by decide +kernel
theorem tyJx8e188_ok : ∀ k, k < 0 → parseFieldDescriptor (TJx8e188 k).2.2.1 = some (tyJx8e188 k) := by decide +kernel
def RJxb160c : String := "java/lang/Comparable"
def TJxb160c : u_T := fun k => match k with
  | _ => ("", "", "", false)
def tyJxb160c : Nat → FieldType := fun k => match k with
  | _ => .int
abbrev wsJxb160c0 : List Cond := u_ws RJxb160c TJxb160c 0
theorem nmJxb160c : ∀ a, a < 0 → ∀ b, b < 0 → a ≠ b → (TJxb160c a).2.1 ≠ (TJxb160c b).2.1 := by decide +kernel
theorem tyJxb160c_ok : ∀ k, k < 0 → parseFieldDescriptor (TJxb160c k).2.2.1 = some (tyJxb160c k) := by decide +kernel
def RJx29ce0 : String := "java/lang/Enum"
def TJx29ce0 : u_T := fun k => match k with
  | _ => ("", "", "", false)
def tyJx29ce0 : Nat → FieldType := fun k => match k with
  | _ => .int
abbrev wsJx29ce00 : List Cond := u_ws RJx29ce0 TJx29ce0 0
theorem nmJx29ce0 : ∀ a, a < 0 → ∀ b, b < 0 → a ≠ b → (TJx29ce0 a).2.1 ≠ (TJx29ce0 b).2.1 := by decide +kernel
theorem tyJx29ce0_ok : ∀ k, k < 0 → parseFieldDescriptor (TJx29ce0 k).2.2.1 = some (tyJx29ce0 k) := by decide +kernel
abbrev cJx29ce0_ordinal_8abf5 : ByteArray := prog_18_method_2_code
def yJx29ce0_ordinal_8abf5 : MethodName := ⟨RJx29ce0, "ordinal", "()I"⟩
def RJ6 : String := "java/lang/Integer"
def TJ6 : u_T := fun k => match k with
  | _ => ("", "", "", false)
def tyJ6 : Nat → FieldType := fun k => match k with
  | _ => .int
abbrev wsJ60 : List Cond := u_ws RJ6 TJ6 0
theorem nmJ6 : ∀ a, a < 0 → ∀ b, b < 0 → a ≠ b → (TJ6 a).2.1 ≠ (TJ6 b).2.1 := by decide +kernel
theorem tyJ6_ok : ∀ k, k < 0 → parseFieldDescriptor (TJ6 k).2.2.1 = some (tyJ6 k) := by decide +kernel
abbrev cJ6_getChars_ba4f3 : ByteArray := prog_23_method_12_code
def yJ6_getChars_ba4f3 : MethodName := ⟨RJ6, "getChars", "(II[B)I"⟩
abbrev cJ6_stringSize_0f7a4 : ByteArray := prog_23_method_13_code
def yJ6_stringSize_0f7a4 : MethodName := ⟨RJ6, "stringSize", "(I)I"⟩
abbrev cJ6_bitCount_0f7a4 : ByteArray := prog_23_method_49_code
def yJ6_bitCount_0f7a4 : MethodName := ⟨RJ6, "bitCount", "(I)I"⟩
def RJ9 : String := "java/lang/Math"
def TJ9 : u_T := fun k => match k with
  | _ => ("", "", "", false)
def tyJ9 : Nat → FieldType := fun k => match k with
  | _ => .int
abbrev wsJ90 : List Cond := u_ws RJ9 TJ9 0
theorem nmJ9 : ∀ a, a < 0 → ∀ b, b < 0 → a ≠ b → (TJ9 a).2.1 ≠ (TJ9 b).2.1 := by decide +kernel
theorem tyJ9_ok : ∀ k, k < 0 → parseFieldDescriptor (TJ9 k).2.2.1 = some (tyJ9 k) := by decide +kernel
abbrev cJ9_max_7cf53 : ByteArray := prog_24_method_65_code
def yJ9_max_7cf53 : MethodName := ⟨RJ9, "max", "(II)I"⟩
abbrev cJ9_min_7cf53 : ByteArray := prog_24_method_69_code
def yJ9_min_7cf53 : MethodName := ⟨RJ9, "min", "(II)I"⟩
def RJxd2413 : String := "java/lang/Number"
def TJxd2413 : u_T := fun k => match k with
  | _ => ("", "", "", false)
def tyJxd2413 : Nat → FieldType := fun k => match k with
  | _ => .int
abbrev wsJxd24130 : List Cond := u_ws RJxd2413 TJxd2413 0
theorem nmJxd2413 : ∀ a, a < 0 → ∀ b, b < 0 → a ≠ b → (TJxd2413 a).2.1 ≠ (TJxd2413 b).2.1 := by decide +kernel
theorem tyJxd2413_ok : ∀ k, k < 0 → parseFieldDescriptor (TJxd2413 k).2.2.1 = some (tyJxd2413 k) := by decide +kernel
def RJ0 : String := "java/lang/String"
def TJ0 : u_T := fun k => match k with
  | 0 => ("java/lang/String", "value", "[B", true)
  | 1 => ("java/lang/String", "coder", "B", true)
  | 2 => ("java/lang/String", "hash", "I", false)
  | _ => ("java/lang/String", "hashIsZero", "Z", false)
def tyJ0 : Nat → FieldType := fun k => match k with
  | 0 => .array .byte
  | 1 => .byte
  | 2 => .int
  | _ => .boolean
abbrev wsJ00 : List Cond := u_ws RJ0 TJ0 4
theorem nmJ0 : ∀ a, a < 4 → ∀ b, b < 4 → a ≠ b → (TJ0 a).2.1 ≠ (TJ0 b).2.1 := by decide +kernel
theorem tyJ0_ok : ∀ k, k < 4 → parseFieldDescriptor (TJ0 k).2.2.1 = some (tyJ0 k) := by decide +kernel
abbrev cJ0_init_81219 : ByteArray := prog_27_method_53_code
def yJ0_init_81219 : MethodName := ⟨RJ0, "<init>", "(Ljava/lang/StringBuilder;)V"⟩
abbrev cJ0_length_8abf5 : ByteArray := prog_27_method_54_code
def yJ0_length_8abf5 : MethodName := ⟨RJ0, "length", "()I"⟩
abbrev cJ0_charAt_5068e : ByteArray := prog_27_method_56_code
def yJ0_charAt_5068e : MethodName := ⟨RJ0, "charAt", "(I)C"⟩
abbrev cJ0_getBytes_840e7 : ByteArray := prog_27_method_147_code
def yJ0_getBytes_840e7 : MethodName := ⟨RJ0, "getBytes", "([BIB)V"⟩
abbrev cJ0_init_db425 : ByteArray := prog_27_method_150_code
def yJ0_init_db425 : MethodName := ⟨RJ0, "<init>", "(Ljava/lang/AbstractStringBuilder;Ljava/lang/Void;)V"⟩
abbrev cJ0_coder_7d493 : ByteArray := prog_27_method_152_code
def yJ0_coder_7d493 : MethodName := ⟨RJ0, "coder", "()B"⟩
abbrev cJ0_isLatin1_aae02 : ByteArray := prog_27_method_154_code
def yJ0_isLatin1_aae02 : MethodName := ⟨RJ0, "isLatin1", "()Z"⟩
abbrev cJ0_checkIndex_df160 : ByteArray := prog_27_method_155_code
def yJ0_checkIndex_df160 : MethodName := ⟨RJ0, "checkIndex", "(II)V"⟩
abbrev cJ0_checkBoundsOffCount_cabcc : ByteArray := prog_27_method_157_code
def yJ0_checkBoundsOffCount_cabcc : MethodName := ⟨RJ0, "checkBoundsOffCount", "(III)I"⟩
abbrev cJ0_checkBoundsBeginEnd_23922 : ByteArray := prog_27_method_158_code
def yJ0_checkBoundsBeginEnd_23922 : MethodName := ⟨RJ0, "checkBoundsBeginEnd", "(III)V"⟩
def RJ4 : String := "java/lang/StringBuilder"
def TJ4 : u_T := fun k => match k with
  | 0 => ("java/lang/AbstractStringBuilder", "value", "[B", false)
  | 1 => ("java/lang/AbstractStringBuilder", "coder", "B", false)
  | 2 => ("java/lang/AbstractStringBuilder", "maybeLatin1", "Z", false)
  | _ => ("java/lang/AbstractStringBuilder", "count", "I", false)
def tyJ4 : Nat → FieldType := fun k => match k with
  | 0 => .array .byte
  | 1 => .byte
  | 2 => .boolean
  | _ => .int
abbrev wsJ40 : List Cond := u_ws RJ4 TJ4 4
theorem nmJ4 : ∀ a, a < 4 → ∀ b, b < 4 → a ≠ b → (TJ4 a).2.1 ≠ (TJ4 b).2.1 := by decide +kernel
theorem tyJ4_ok : ∀ k, k < 4 → parseFieldDescriptor (TJ4 k).2.2.1 = some (tyJ4 k) := by decide +kernel
abbrev cJ4_init_da8c8 : ByteArray := prog_28_method_1_code
def yJ4_init_da8c8 : MethodName := ⟨RJ4, "<init>", "()V"⟩
abbrev cJ4_append_15ec4 : ByteArray := prog_28_method_7_code
def yJ4_append_15ec4 : MethodName := ⟨RJ4, "append", "(Ljava/lang/String;)Ljava/lang/StringBuilder;"⟩
abbrev cJ4_append_cf468 : ByteArray := prog_28_method_14_code
def yJ4_append_cf468 : MethodName := ⟨RJ4, "append", "(C)Ljava/lang/StringBuilder;"⟩
abbrev cJ4_append_bf812 : ByteArray := prog_28_method_15_code
def yJ4_append_bf812 : MethodName := ⟨RJ4, "append", "(I)Ljava/lang/StringBuilder;"⟩
abbrev cJ4_toString_0e30d : ByteArray := prog_28_method_42_code
def yJ4_toString_0e30d : MethodName := ⟨RJ4, "toString", "()Ljava/lang/String;"⟩
abbrev cJ4_setLength_d00df : ByteArray := prog_28_method_89_code
def yJ4_setLength_d00df : MethodName := ⟨RJ4, "setLength", "(I)V"⟩
abbrev cJ4_length_8abf5 : ByteArray := prog_28_method_93_code
def yJ4_length_8abf5 : MethodName := ⟨RJ4, "length", "()I"⟩
def RJx7c733 : String := "java/lang/StringIndexOutOfBoundsException"
def TJx7c733 : u_T := fun k => match k with
  | 0 => ("java/lang/Throwable", "backtrace", "Ljava/lang/Object;", false)
  | 1 => ("java/lang/Throwable", "detailMessage", "Ljava/lang/String;", false)
  | 2 => ("java/lang/Throwable", "cause", "Ljava/lang/Throwable;", false)
  | 3 => ("java/lang/Throwable", "stackTrace", "[Ljava/lang/StackTraceElement;", false)
  | 4 => ("java/lang/Throwable", "depth", "I", false)
  | _ => ("java/lang/Throwable", "suppressedExceptions", "Ljava/util/List;", false)
def tyJx7c733 : Nat → FieldType := fun k => match k with
  | 0 => .object "java/lang/Object"
  | 1 => .object "java/lang/String"
  | 2 => .object "java/lang/Throwable"
  | 3 => .array (.object "java/lang/StackTraceElement")
  | 4 => .int
  | _ => .object "java/util/List"
abbrev wsJx7c7330 : List Cond := u_ws RJx7c733 TJx7c733 6
theorem nmJx7c733 : ∀ a, a < 6 → ∀ b, b < 6 → a ≠ b → (TJx7c733 a).2.1 ≠ (TJx7c733 b).2.1 := by decide +kernel
theorem tyJx7c733_ok : ∀ k, k < 6 → parseFieldDescriptor (TJx7c733 k).2.2.1 = some (tyJx7c733 k) := by decide +kernel
abbrev cJx7c733_init_d00df : ByteArray := prog_29_method_3_code
def yJx7c733_init_d00df : MethodName := ⟨RJx7c733, "<init>", "(I)V"⟩
def RJ1 : String := "java/lang/StringLatin1"
def TJ1 : u_T := fun k => match k with
  | _ => ("", "", "", false)
def tyJ1 : Nat → FieldType := fun k => match k with
  | _ => .int
abbrev wsJ10 : List Cond := u_ws RJ1 TJ1 0
theorem nmJ1 : ∀ a, a < 0 → ∀ b, b < 0 → a ≠ b → (TJ1 a).2.1 ≠ (TJ1 b).2.1 := by decide +kernel
theorem tyJ1_ok : ∀ k, k < 0 → parseFieldDescriptor (TJ1 k).2.2.1 = some (tyJ1 k) := by decide +kernel
abbrev cJ1_charAt_3b067 : ByteArray := prog_30_method_2_code
def yJ1_charAt_3b067 : MethodName := ⟨RJ1, "charAt", "([BI)C"⟩
abbrev cJ1_canEncode_fc78d : ByteArray := prog_30_method_3_code
def yJ1_canEncode_fc78d : MethodName := ⟨RJ1, "canEncode", "(C)Z"⟩
abbrev cJ1_fillNull_b72d1 : ByteArray := prog_30_method_48_code
def yJ1_fillNull_b72d1 : MethodName := ⟨RJ1, "fillNull", "([BII)V"⟩
abbrev cJ1_inflate_0e8fd : ByteArray := prog_30_method_50_code
def yJ1_inflate_0e8fd : MethodName := ⟨RJ1, "inflate", "([BI[BII)V"⟩
def RJ2 : String := "java/lang/StringUTF16"
def TJ2 : u_T := fun k => match k with
  | _ => ("", "", "", false)
def tyJ2 : Nat → FieldType := fun k => match k with
  | _ => .int
abbrev wsJ20 : List Cond := u_ws RJ2 TJ2 0
theorem nmJ2 : ∀ a, a < 0 → ∀ b, b < 0 → a ≠ b → (TJ2 a).2.1 ≠ (TJ2 b).2.1 := by decide +kernel
theorem tyJ2_ok : ∀ k, k < 0 → parseFieldDescriptor (TJ2 k).2.2.1 = some (tyJ2 k) := by decide +kernel
abbrev cJ2_newBytesFor_77867 : ByteArray := prog_31_method_2_code
def yJ2_newBytesFor_77867 : MethodName := ⟨RJ2, "newBytesFor", "(I)[B"⟩
abbrev cJ2_newBytesLength_0f7a4 : ByteArray := prog_31_method_3_code
def yJ2_newBytesLength_0f7a4 : MethodName := ⟨RJ2, "newBytesLength", "(I)I"⟩
abbrev cJ2_putChar_b72d1 : ByteArray := prog_31_method_4_code
def yJ2_putChar_b72d1 : MethodName := ⟨RJ2, "putChar", "([BII)V"⟩
abbrev cJ2_getChar_3b067 : ByteArray := prog_31_method_5_code
def yJ2_getChar_3b067 : MethodName := ⟨RJ2, "getChar", "([BI)C"⟩
abbrev cJ2_length_9d52b : ByteArray := prog_31_method_6_code
def yJ2_length_9d52b : MethodName := ⟨RJ2, "length", "([B)I"⟩
abbrev cJ2_coderFromArrayLen_85cad : ByteArray := prog_31_method_15_code
def yJ2_coderFromArrayLen_85cad : MethodName := ⟨RJ2, "coderFromArrayLen", "([BI)B"⟩
abbrev cJ2_compress_39247 : ByteArray := prog_31_method_17_code
def yJ2_compress_39247 : MethodName := ⟨RJ2, "compress", "([BII)[B"⟩
abbrev cJ2_compress_5af95 : ByteArray := prog_31_method_22_code
def yJ2_compress_5af95 : MethodName := ⟨RJ2, "compress", "([BI[BII)I"⟩
abbrev cJ2_fillNull_b72d1 : ByteArray := prog_31_method_70_code
def yJ2_fillNull_b72d1 : MethodName := ⟨RJ2, "fillNull", "([BII)V"⟩
abbrev cJ2_putCharSB_b72d1 : ByteArray := prog_31_method_71_code
def yJ2_putCharSB_b72d1 : MethodName := ⟨RJ2, "putCharSB", "([BII)V"⟩
abbrev cJ2_getChars_46870 : ByteArray := prog_31_method_77_code
def yJ2_getChars_46870 : MethodName := ⟨RJ2, "getChars", "(III[B)I"⟩
abbrev cJ2_putCharsAt_cd4e5 : ByteArray := prog_31_method_81_code
def yJ2_putCharsAt_cd4e5 : MethodName := ⟨RJ2, "putCharsAt", "([BICCCC)I"⟩
abbrev cJ2_charAt_3b067 : ByteArray := prog_31_method_83_code
def yJ2_charAt_3b067 : MethodName := ⟨RJ2, "charAt", "([BI)C"⟩
abbrev cJ2_inflate_0e8fd : ByteArray := prog_31_method_86_code
def yJ2_inflate_0e8fd : MethodName := ⟨RJ2, "inflate", "([BI[BII)V"⟩
abbrev cJ2_getChars_ba4f3 : ByteArray := prog_31_method_89_code
def yJ2_getChars_ba4f3 : MethodName := ⟨RJ2, "getChars", "(II[B)I"⟩
abbrev cJ2_checkIndex_2214a : ByteArray := prog_31_method_91_code
def yJ2_checkIndex_2214a : MethodName := ⟨RJ2, "checkIndex", "(I[B)V"⟩
abbrev cJ2_checkBoundsBeginEnd_d044e : ByteArray := prog_31_method_93_code
def yJ2_checkBoundsBeginEnd_d044e : MethodName := ⟨RJ2, "checkBoundsBeginEnd", "(II[B)V"⟩
abbrev cJ2_checkBoundsOffCount_d044e : ByteArray := prog_31_method_94_code
def yJ2_checkBoundsOffCount_d044e : MethodName := ⟨RJ2, "checkBoundsOffCount", "(II[B)V"⟩
def RJ10 : String := "java/lang/System"
def TJ10 : u_T := fun k => match k with
  | _ => ("", "", "", false)
def tyJ10 : Nat → FieldType := fun k => match k with
  | _ => .int
abbrev wsJ100 : List Cond := u_ws RJ10 TJ10 0
theorem nmJ10 : ∀ a, a < 0 → ∀ b, b < 0 → a ≠ b → (TJ10 a).2.1 ≠ (TJ10 b).2.1 := by decide +kernel
theorem tyJ10_ok : ∀ k, k < 0 → parseFieldDescriptor (TJ10 k).2.2.1 = some (tyJ10 k) := by decide +kernel
def RJxfd54e : String := "java/lang/constant/Constable"
def TJxfd54e : u_T := fun k => match k with
  | _ => ("", "", "", false)
def tyJxfd54e : Nat → FieldType := fun k => match k with
  | _ => .int
abbrev wsJxfd54e0 : List Cond := u_ws RJxfd54e TJxfd54e 0
theorem nmJxfd54e : ∀ a, a < 0 → ∀ b, b < 0 → a ≠ b → (TJxfd54e a).2.1 ≠ (TJxfd54e b).2.1 := by decide +kernel
theorem tyJxfd54e_ok : ∀ k, k < 0 → parseFieldDescriptor (TJxfd54e k).2.2.1 = some (tyJxfd54e k) := by decide +kernel
def RJx3cf43 : String := "java/lang/constant/ConstantDesc"
def TJx3cf43 : u_T := fun k => match k with
  | _ => ("", "", "", false)
def tyJx3cf43 : Nat → FieldType := fun k => match k with
  | _ => .int
abbrev wsJx3cf430 : List Cond := u_ws RJx3cf43 TJx3cf43 0
theorem nmJx3cf43 : ∀ a, a < 0 → ∀ b, b < 0 → a ≠ b → (TJx3cf43 a).2.1 ≠ (TJx3cf43 b).2.1 := by decide +kernel
theorem tyJx3cf43_ok : ∀ k, k < 0 → parseFieldDescriptor (TJx3cf43 k).2.2.1 = some (tyJx3cf43 k) := by decide +kernel
def RJ7 : String := "java/util/Arrays"
def TJ7 : u_T := fun k => match k with
  | _ => ("", "", "", false)
def tyJ7 : Nat → FieldType := fun k => match k with
  | _ => .int
abbrev wsJ70 : List Cond := u_ws RJ7 TJ7 0
theorem nmJ7 : ∀ a, a < 0 → ∀ b, b < 0 → a ≠ b → (TJ7 a).2.1 ≠ (TJ7 b).2.1 := by decide +kernel
theorem tyJ7_ok : ∀ k, k < 0 → parseFieldDescriptor (TJ7 k).2.2.1 = some (tyJ7 k) := by decide +kernel
abbrev cJ7_rangeCheck_23922 : ByteArray := prog_37_method_30_code
def yJ7_rangeCheck_23922 : MethodName := ⟨RJ7, "rangeCheck", "(III)V"⟩
abbrev cJ7_fill_eb02e : ByteArray := prog_37_method_110_code
def yJ7_fill_eb02e : MethodName := ⟨RJ7, "fill", "([BIIB)V"⟩
abbrev cJ7_copyOf_9075b : ByteArray := prog_37_method_121_code
def yJ7_copyOf_9075b : MethodName := ⟨RJ7, "copyOf", "([BI)[B"⟩
abbrev cJ7_checkLength_df160 : ByteArray := prog_37_method_131_code
def yJ7_checkLength_df160 : MethodName := ⟨RJ7, "checkLength", "(II)V"⟩
abbrev cJ7_copyOfRange_39247 : ByteArray := prog_37_method_132_code
def yJ7_copyOfRange_39247 : MethodName := ⟨RJ7, "copyOfRange", "([BII)[B"⟩
abbrev cJ7_copyOfRangeByte_39247 : ByteArray := prog_37_method_133_code
def yJ7_copyOfRangeByte_39247 : MethodName := ⟨RJ7, "copyOfRangeByte", "([BII)[B"⟩
def RJ8 : String := "jdk/internal/util/ArraysSupport"
def TJ8 : u_T := fun k => match k with
  | _ => ("", "", "", false)
def tyJ8 : Nat → FieldType := fun k => match k with
  | _ => .int
abbrev wsJ80 : List Cond := u_ws RJ8 TJ8 0
theorem nmJ8 : ∀ a, a < 0 → ∀ b, b < 0 → a ≠ b → (TJ8 a).2.1 ≠ (TJ8 b).2.1 := by decide +kernel
theorem tyJ8_ok : ∀ k, k < 0 → parseFieldDescriptor (TJ8 k).2.2.1 = some (tyJ8 k) := by decide +kernel
abbrev cJ8_newLength_cabcc : ByteArray := prog_39_method_27_code
def yJ8_newLength_cabcc : MethodName := ⟨RJ8, "newLength", "(III)I"⟩
abbrev cJ8_hugeLength_7cf53 : ByteArray := prog_39_method_28_code
def yJ8_hugeLength_7cf53 : MethodName := ⟨RJ8, "hugeLength", "(II)I"⟩
def RJ3 : String := "jdk/internal/util/Preconditions"
def TJ3 : u_T := fun k => match k with
  | _ => ("", "", "", false)
def tyJ3 : Nat → FieldType := fun k => match k with
  | _ => .int
abbrev wsJ30 : List Cond := u_ws RJ3 TJ3 0
theorem nmJ3 : ∀ a, a < 0 → ∀ b, b < 0 → a ≠ b → (TJ3 a).2.1 ≠ (TJ3 b).2.1 := by decide +kernel
theorem tyJ3_ok : ∀ k, k < 0 → parseFieldDescriptor (TJ3 k).2.2.1 = some (tyJ3 k) := by decide +kernel
abbrev cJ3_checkIndex_8e157 : ByteArray := prog_40_method_11_code
def yJ3_checkIndex_8e157 : MethodName := ⟨RJ3, "checkIndex", "(IILjava/util/function/BiFunction;)I"⟩
abbrev cJ3_checkFromToIndex_8c36e : ByteArray := prog_40_method_12_code
def yJ3_checkFromToIndex_8c36e : MethodName := ⟨RJ3, "checkFromToIndex", "(IIILjava/util/function/BiFunction;)I"⟩
abbrev cJ3_checkFromIndexSize_8c36e : ByteArray := prog_40_method_13_code
def yJ3_checkFromIndexSize_8c36e : MethodName := ⟨RJ3, "checkFromIndexSize", "(IIILjava/util/function/BiFunction;)I"⟩
def RL : String := "RingKilnLaw"
abbrev cL_cell : ByteArray := method_2_code
def yL_cell : MethodName := ⟨RL, "cell", "([II)I"⟩
abbrev cL_load : ByteArray := method_3_code
def yL_load : MethodName := ⟨RL, "load", "(LRingKiln;II)I"⟩
abbrev cL_unload : ByteArray := method_4_code
def yL_unload : MethodName := ⟨RL, "unload", "(LRingKiln;I)I"⟩
abbrev cL_light : ByteArray := method_5_code
def yL_light : MethodName := ⟨RL, "light", "(LRingKiln;I)I"⟩
abbrev cL_quench : ByteArray := method_6_code
def yL_quench : MethodName := ⟨RL, "quench", "(LRingKiln;)I"⟩
abbrev cL_setDraught : ByteArray := method_7_code
def yL_setDraught : MethodName := ⟨RL, "setDraught", "(LRingKiln;I)I"⟩
abbrev cL_passHours : ByteArray := method_8_code
def yL_passHours : MethodName := ⟨RL, "passHours", "(LRingKiln;I)I"⟩
abbrev cL_addFuel : ByteArray := method_9_code
def yL_addFuel : MethodName := ⟨RL, "addFuel", "(LRingKiln;CI)I"⟩
abbrev cL_setPrice : ByteArray := method_10_code
def yL_setPrice : MethodName := ⟨RL, "setPrice", "(LRingKiln;CI)I"⟩
abbrev cL_feed : ByteArray := method_11_code
def yL_feed : MethodName := ⟨RL, "feed", "(LRingKiln;I)I"⟩
abbrev cL_buildWall : ByteArray := method_12_code
def yL_buildWall : MethodName := ⟨RL, "buildWall", "(LRingKiln;II)I"⟩
abbrev cL_fireChamber : ByteArray := method_13_code
def yL_fireChamber : MethodName := ⟨RL, "fireChamber", "(LRingKiln;)I"⟩
abbrev cL_chamberAtRank : ByteArray := method_14_code
def yL_chamberAtRank : MethodName := ⟨RL, "chamberAtRank", "(LRingKiln;I)I"⟩
abbrev cL_hoursUntilOut : ByteArray := method_15_code
def yL_hoursUntilOut : MethodName := ⟨RL, "hoursUntilOut", "(LRingKiln;)I"⟩
abbrev cL_hoursUntilCool : ByteArray := method_16_code
def yL_hoursUntilCool : MethodName := ⟨RL, "hoursUntilCool", "(LRingKiln;I)I"⟩
abbrev cL_lowestCost : ByteArray := method_17_code
def yL_lowestCost : MethodName := ⟨RL, "lowestCost", "(LRingKiln;I)I"⟩
abbrev cL_lowestCostByTrying : ByteArray := method_18_code
def yL_lowestCostByTrying : MethodName := ⟨RL, "lowestCostByTrying", "(LRingKiln;I)I"⟩
abbrev cL_piecesInMixture : ByteArray := method_19_code
def yL_piecesInMixture : MethodName := ⟨RL, "piecesInMixture", "(LRingKiln;CI)I"⟩
abbrev cL_fewestBricks : ByteArray := method_20_code
def yL_fewestBricks : MethodName := ⟨RL, "fewestBricks", "(LRingKiln;II)I"⟩
abbrev cL_run : ByteArray := method_22_code
def yL_run : MethodName := ⟨RL, "run", "(LRingKiln;)I"⟩
abbrev cL_failedCommand : ByteArray := method_23_code
def yL_failedCommand : MethodName := ⟨RL, "failedCommand", "(LRingKiln;)I"⟩
abbrev cL_undo : ByteArray := method_24_code
def yL_undo : MethodName := ⟨RL, "undo", "(LRingKiln;)I"⟩
abbrev cL_put : ByteArray := method_25_code
def yL_put : MethodName := ⟨RL, "put", "(LRingKiln;C)Z"⟩
abbrev cL_typed : ByteArray := method_26_code
def yL_typed : MethodName := ⟨RL, "typed", "(LRingKiln;Ljava/lang/String;)LRingKiln;"⟩
abbrev cL_saved : ByteArray := method_27_code
def yL_saved : MethodName := ⟨RL, "saved", "(LRingKiln;)I"⟩
abbrev cL_restored : ByteArray := method_28_code
def yL_restored : MethodName := ⟨RL, "restored", "(LRingKiln;)I"⟩
abbrev cL_act : ByteArray := method_29_code
def yL_act : MethodName := ⟨RL, "act", "(LRingKiln;I)I"⟩
abbrev cL_digest : ByteArray := method_30_code
def yL_digest : MethodName := ⟨RL, "digest", "(LRingKiln;)J"⟩
abbrev cL_areChambers : ByteArray := method_31_code
def yL_areChambers : MethodName := ⟨RL, "areChambers", "(LRingKiln;)Z"⟩
abbrev cL_isMixed : ByteArray := method_32_code
def yL_isMixed : MethodName := ⟨RL, "isMixed", "(LRingKiln;I)Z"⟩
abbrev cL_areWalls : ByteArray := method_33_code
def yL_areWalls : MethodName := ⟨RL, "areWalls", "(LRingKiln;II)Z"⟩
abbrev cL_isForetold : ByteArray := method_34_code
def yL_isForetold : MethodName := ⟨RL, "isForetold", "(LRingKiln;)Z"⟩
abbrev cL_isFit : ByteArray := method_35_code
def yL_isFit : MethodName := ⟨RL, "isFit", "(LRingKiln;)Z"⟩
abbrev cL_law : ByteArray := code
def yL_law : MethodName := ⟨RL, "law", "([I)Z"⟩
abbrev vwCl : List vw_C := [(RJ0, TJ0, 4), (RJ4, TJ4, 4), (RJx00060, TJx00060, 6), (RJx7c733, TJx7c733, 6), (RX2, TX2, 7), (RX3, TX3, 3), (RX4, TX4, 17), (RX5, TX5, 5), (RX6, TX6, 9), (RX7, TX7, 12)]
