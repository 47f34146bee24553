def RX0 : String := "KeptLight$Boat"
def TX0 : u_T := fun k => match k with
  | 0 => ("KeptLight$Boat", "due", "I", false)
  | 1 => ("KeptLight$Boat", "every", "I", false)
  | 2 => ("KeptLight$Boat", "oil", "I", false)
  | 3 => ("KeptLight$Boat", "coal", "I", false)
  | _ => ("KeptLight$Boat", "came", "I", false)
def tyX0 : Nat → FieldType := fun k => match k with
  | 0 => .int
  | 1 => .int
  | 2 => .int
  | 3 => .int
  | _ => .int
abbrev wsX00 : List Cond := u_ws RX0 TX0 5
theorem nmX0 : ∀ a, a < 5 → ∀ b, b < 5 → a ≠ b → (TX0 a).2.1 ≠ (TX0 b).2.1 := by decide +kernel
theorem tyX0_ok : ∀ k, k < 5 → parseFieldDescriptor (TX0 k).2.2.1 = some (tyX0 k) := by decide +kernel
abbrev cX0_init : ByteArray := prog_2_method_1_code
def yX0_init : MethodName := ⟨RX0, "<init>", "()V"⟩
abbrev cX0_isDueAt : ByteArray := prog_2_method_2_code
def yX0_isDueAt : MethodName := ⟨RX0, "isDueAt", "(I)Z"⟩
abbrev cX0_become : ByteArray := prog_2_method_3_code
def yX0_become : MethodName := ⟨RX0, "become", "(LKeptLight$Boat;)V"⟩
def RX1 : String := "KeptLight$Crew"
def TX1 : u_T := fun k => match k with
  | 0 => ("KeptLight$Crew", "ranks", "[I", true)
  | 1 => ("KeptLight$Crew", "lasts", "[I", true)
  | 2 => ("KeptLight$Crew", "tired", "[I", true)
  | 3 => ("KeptLight$Crew", "tended", "[I", true)
  | 4 => ("KeptLight$Crew", "slept", "[I", true)
  | _ => ("KeptLight$Crew", "count", "I", false)
def tyX1 : Nat → FieldType := fun k => match k with
  | 0 => .array .int
  | 1 => .array .int
  | 2 => .array .int
  | 3 => .array .int
  | 4 => .array .int
  | _ => .int
abbrev wsX10 : List Cond := u_ws RX1 TX1 6
theorem nmX1 : ∀ a, a < 6 → ∀ b, b < 6 → a ≠ b → (TX1 a).2.1 ≠ (TX1 b).2.1 := by decide +kernel
theorem tyX1_ok : ∀ k, k < 6 → parseFieldDescriptor (TX1 k).2.2.1 = some (tyX1 k) := by decide +kernel
abbrev cX1_init : ByteArray := prog_3_method_1_code
def yX1_init : MethodName := ⟨RX1, "<init>", "()V"⟩
abbrev cX1_has : ByteArray := prog_3_method_2_code
def yX1_has : MethodName := ⟨RX1, "has", "(I)Z"⟩
abbrev cX1_isFull : ByteArray := prog_3_method_3_code
def yX1_isFull : MethodName := ⟨RX1, "isFull", "()Z"⟩
abbrev cX1_hire : ByteArray := prog_3_method_4_code
def yX1_hire : MethodName := ⟨RX1, "hire", "(I)I"⟩
abbrev cX1_rankOf : ByteArray := prog_3_method_5_code
def yX1_rankOf : MethodName := ⟨RX1, "rankOf", "(I)I"⟩
abbrev cX1_lastsIn : ByteArray := prog_3_method_10_code
def yX1_lastsIn : MethodName := ⟨RX1, "lastsIn", "(I)I"⟩
abbrev cX1_isAwake : ByteArray := prog_3_method_11_code
def yX1_isAwake : MethodName := ⟨RX1, "isAwake", "(I)Z"⟩
abbrev cX1_spendHour : ByteArray := prog_3_method_12_code
def yX1_spendHour : MethodName := ⟨RX1, "spendHour", "(IZI)V"⟩
abbrev cX1_restAll : ByteArray := prog_3_method_13_code
def yX1_restAll : MethodName := ⟨RX1, "restAll", "()V"⟩
abbrev cX1_become : ByteArray := prog_3_method_14_code
def yX1_become : MethodName := ⟨RX1, "become", "(LKeptLight$Crew;)V"⟩
def RX2 : String := "KeptLight$Fleet"
def TX2 : u_T := fun k => match k with
  | 0 => ("KeptLight$Fleet", "kinds", "[I", true)
  | 1 => ("KeptLight$Fleet", "hours", "[I", true)
  | 2 => ("KeptLight$Fleet", "fates", "[I", true)
  | 3 => ("KeptLight$Fleet", "mets", "[I", true)
  | 4 => ("KeptLight$Fleet", "places", "[I", true)
  | _ => ("KeptLight$Fleet", "count", "I", false)
def tyX2 : Nat → FieldType := fun k => match k with
  | 0 => .array .int
  | 1 => .array .int
  | 2 => .array .int
  | 3 => .array .int
  | 4 => .array .int
  | _ => .int
abbrev wsX20 : List Cond := u_ws RX2 TX2 6
theorem nmX2 : ∀ a, a < 6 → ∀ b, b < 6 → a ≠ b → (TX2 a).2.1 ≠ (TX2 b).2.1 := by decide +kernel
theorem tyX2_ok : ∀ k, k < 6 → parseFieldDescriptor (TX2 k).2.2.1 = some (tyX2 k) := by decide +kernel
abbrev cX2_init : ByteArray := prog_4_method_1_code
def yX2_init : MethodName := ⟨RX2, "<init>", "()V"⟩
abbrev cX2_has : ByteArray := prog_4_method_2_code
def yX2_has : MethodName := ⟨RX2, "has", "(I)Z"⟩
abbrev cX2_isFull : ByteArray := prog_4_method_3_code
def yX2_isFull : MethodName := ⟨RX2, "isFull", "()Z"⟩
abbrev cX2_kindOf : ByteArray := prog_4_method_4_code
def yX2_kindOf : MethodName := ⟨RX2, "kindOf", "(I)I"⟩
abbrev cX2_hourOf : ByteArray := prog_4_method_5_code
def yX2_hourOf : MethodName := ⟨RX2, "hourOf", "(I)I"⟩
abbrev cX2_fateOf : ByteArray := prog_4_method_6_code
def yX2_fateOf : MethodName := ⟨RX2, "fateOf", "(I)I"⟩
abbrev cX2_metOf : ByteArray := prog_4_method_7_code
def yX2_metOf : MethodName := ⟨RX2, "metOf", "(I)I"⟩
abbrev cX2_expect : ByteArray := prog_4_method_8_code
def yX2_expect : MethodName := ⟨RX2, "expect", "(II)I"⟩
abbrev cX2_isBehind : ByteArray := prog_4_method_9_code
def yX2_isBehind : MethodName := ⟨RX2, "isBehind", "(III)Z"⟩
abbrev cX2_shipInPlace : ByteArray := prog_4_method_10_code
def yX2_shipInPlace : MethodName := ⟨RX2, "shipInPlace", "(I)I"⟩
abbrev cX2_firstPlaceOf : ByteArray := prog_4_method_11_code
def yX2_firstPlaceOf : MethodName := ⟨RX2, "firstPlaceOf", "(I)I"⟩
abbrev cX2_isPlaceOf : ByteArray := prog_4_method_12_code
def yX2_isPlaceOf : MethodName := ⟨RX2, "isPlaceOf", "(II)Z"⟩
abbrev cX2_becameOf : ByteArray := prog_4_method_13_code
def yX2_becameOf : MethodName := ⟨RX2, "becameOf", "(III)V"⟩
abbrev cX2_countFates : ByteArray := prog_4_method_14_code
def yX2_countFates : MethodName := ⟨RX2, "countFates", "(II)I"⟩
def RX3 : String := "KeptLight$LogBook"
def TX3 : u_T := fun k => match k with
  | 0 => ("KeptLight$LogBook", "hours", "[I", true)
  | 1 => ("KeptLight$LogBook", "sorts", "[I", true)
  | 2 => ("KeptLight$LogBook", "ships", "[I", true)
  | 3 => ("KeptLight$LogBook", "writers", "[I", true)
  | _ => ("KeptLight$LogBook", "count", "I", false)
def tyX3 : Nat → FieldType := fun k => match k with
  | 0 => .array .int
  | 1 => .array .int
  | 2 => .array .int
  | 3 => .array .int
  | _ => .int
abbrev wsX30 : List Cond := u_ws RX3 TX3 5
theorem nmX3 : ∀ a, a < 5 → ∀ b, b < 5 → a ≠ b → (TX3 a).2.1 ≠ (TX3 b).2.1 := by decide +kernel
theorem tyX3_ok : ∀ k, k < 5 → parseFieldDescriptor (TX3 k).2.2.1 = some (tyX3 k) := by decide +kernel
abbrev cX3_init : ByteArray := prog_5_method_1_code
def yX3_init : MethodName := ⟨RX3, "<init>", "()V"⟩
abbrev cX3_has : ByteArray := prog_5_method_2_code
def yX3_has : MethodName := ⟨RX3, "has", "(I)Z"⟩
abbrev cX3_write : ByteArray := prog_5_method_3_code
def yX3_write : MethodName := ⟨RX3, "write", "(IIII)V"⟩
abbrev cX3_hourOf : ByteArray := prog_5_method_4_code
def yX3_hourOf : MethodName := ⟨RX3, "hourOf", "(I)I"⟩
abbrev cX3_sortOf : ByteArray := prog_5_method_5_code
def yX3_sortOf : MethodName := ⟨RX3, "sortOf", "(I)I"⟩
abbrev cX3_writerOf : ByteArray := prog_5_method_7_code
def yX3_writerOf : MethodName := ⟨RX3, "writerOf", "(I)I"⟩
abbrev cX3_countOf : ByteArray := prog_5_method_8_code
def yX3_countOf : MethodName := ⟨RX3, "countOf", "(I)I"⟩
def RX4 : String := "KeptLight$Shelf"
def TX4 : u_T := fun k => match k with
  | 0 => ("KeptLight$Shelf", "elements", "[J", true)
  | 1 => ("KeptLight$Shelf", "size", "I", false)
  | _ => ("KeptLight$Shelf", "held", "I", false)
def tyX4 : Nat → FieldType := fun k => match k with
  | 0 => .array .long
  | 1 => .int
  | _ => .int
abbrev wsX40 : List Cond := u_ws RX4 TX4 3
theorem nmX4 : ∀ a, a < 3 → ∀ b, b < 3 → a ≠ b → (TX4 a).2.1 ≠ (TX4 b).2.1 := by decide +kernel
theorem tyX4_ok : ∀ k, k < 3 → parseFieldDescriptor (TX4 k).2.2.1 = some (tyX4 k) := by decide +kernel
abbrev cX4_init : ByteArray := prog_6_method_1_code
def yX4_init : MethodName := ⟨RX4, "<init>", "()V"⟩
abbrev cX4_isEmpty : ByteArray := prog_6_method_3_code
def yX4_isEmpty : MethodName := ⟨RX4, "isEmpty", "()Z"⟩
def RX5 : String := "KeptLight$Sky"
def TX5 : u_T := fun k => match k with
  | 0 => ("KeptLight$Sky", "weathers", "[I", true)
  | 1 => ("KeptLight$Sky", "lengths", "[I", true)
  | 2 => ("KeptLight$Sky", "runs", "I", false)
  | _ => ("KeptLight$Sky", "allHours", "I", false)
def tyX5 : Nat → FieldType := fun k => match k with
  | 0 => .array .int
  | 1 => .array .int
  | 2 => .int
  | _ => .int
abbrev wsX50 : List Cond := u_ws RX5 TX5 4
theorem nmX5 : ∀ a, a < 4 → ∀ b, b < 4 → a ≠ b → (TX5 a).2.1 ≠ (TX5 b).2.1 := by decide +kernel
theorem tyX5_ok : ∀ k, k < 4 → parseFieldDescriptor (TX5 k).2.2.1 = some (tyX5 k) := by decide +kernel
abbrev cX5_init : ByteArray := prog_7_method_1_code
def yX5_init : MethodName := ⟨RX5, "<init>", "()V"⟩
abbrev cX5_isFull : ByteArray := prog_7_method_2_code
def yX5_isFull : MethodName := ⟨RX5, "isFull", "()Z"⟩
abbrev cX5_clear : ByteArray := prog_7_method_3_code
def yX5_clear : MethodName := ⟨RX5, "clear", "()V"⟩
abbrev cX5_append : ByteArray := prog_7_method_4_code
def yX5_append : MethodName := ⟨RX5, "append", "(II)V"⟩
abbrev cX5_weatherAt : ByteArray := prog_7_method_5_code
def yX5_weatherAt : MethodName := ⟨RX5, "weatherAt", "(I)I"⟩
abbrev cX5_become : ByteArray := prog_7_method_6_code
def yX5_become : MethodName := ⟨RX5, "become", "(LKeptLight$Sky;)V"⟩
def RX6 : String := "KeptLight$Station"
def TX6 : u_T := fun k => match k with
  | 0 => ("KeptLight$Station", "sky", "LKeptLight$Sky;", true)
  | 1 => ("KeptLight$Station", "crew", "LKeptLight$Crew;", true)
  | 2 => ("KeptLight$Station", "boat", "LKeptLight$Boat;", true)
  | 3 => ("KeptLight$Station", "watches", "[I", true)
  | 4 => ("KeptLight$Station", "hour", "I", false)
  | 5 => ("KeptLight$Station", "dawn", "I", false)
  | 6 => ("KeptLight$Station", "dusk", "I", false)
  | 7 => ("KeptLight$Station", "wick", "I", false)
  | 8 => ("KeptLight$Station", "oil", "I", false)
  | 9 => ("KeptLight$Station", "coal", "I", false)
  | 10 => ("KeptLight$Station", "lit", "Z", false)
  | 11 => ("KeptLight$Station", "untended", "I", false)
  | 12 => ("KeptLight$Station", "weather", "I", false)
  | 13 => ("KeptLight$Station", "dark", "Z", false)
  | 14 => ("KeptLight$Station", "watch", "I", false)
  | 15 => ("KeptLight$Station", "tended", "Z", false)
  | _ => ("KeptLight$Station", "signal", "Z", false)
def tyX6 : Nat → FieldType := fun k => match k with
  | 0 => .object "KeptLight$Sky"
  | 1 => .object "KeptLight$Crew"
  | 2 => .object "KeptLight$Boat"
  | 3 => .array .int
  | 4 => .int
  | 5 => .int
  | 6 => .int
  | 7 => .int
  | 8 => .int
  | 9 => .int
  | 10 => .boolean
  | 11 => .int
  | 12 => .int
  | 13 => .boolean
  | 14 => .int
  | 15 => .boolean
  | _ => .boolean
abbrev wsX60 : List Cond := u_ws RX6 TX6 17
theorem nmX6 : ∀ a, a < 17 → ∀ b, b < 17 → a ≠ b → (TX6 a).2.1 ≠ (TX6 b).2.1 := by decide +kernel
theorem tyX6_ok : ∀ k, k < 17 → parseFieldDescriptor (TX6 k).2.2.1 = some (tyX6 k) := by decide +kernel
abbrev cX6_init : ByteArray := prog_8_method_1_code
def yX6_init : MethodName := ⟨RX6, "<init>", "()V"⟩
abbrev cX6_isDarkAt : ByteArray := prog_8_method_2_code
def yX6_isDarkAt : MethodName := ⟨RX6, "isDarkAt", "(I)Z"⟩
abbrev cX6_planned : ByteArray := prog_8_method_3_code
def yX6_planned : MethodName := ⟨RX6, "planned", "(I)I"⟩
abbrev cX6_assign : ByteArray := prog_8_method_4_code
def yX6_assign : MethodName := ⟨RX6, "assign", "(II)V"⟩
abbrev cX6_keepWatch : ByteArray := prog_8_method_7_code
def yX6_keepWatch : MethodName := ⟨RX6, "keepWatch", "()V"⟩
abbrev cX6_tendLamp : ByteArray := prog_8_method_8_code
def yX6_tendLamp : MethodName := ⟨RX6, "tendLamp", "()V"⟩
abbrev cX6_endHour : ByteArray := prog_8_method_9_code
def yX6_endHour : MethodName := ⟨RX6, "endHour", "()V"⟩
abbrev cX6_meetBoat : ByteArray := prog_8_method_10_code
def yX6_meetBoat : MethodName := ⟨RX6, "meetBoat", "()V"⟩
abbrev cX6_isUnlit : ByteArray := prog_8_method_11_code
def yX6_isUnlit : MethodName := ⟨RX6, "isUnlit", "()Z"⟩
abbrev cX6_isAsleepOnWatch : ByteArray := prog_8_method_12_code
def yX6_isAsleepOnWatch : MethodName := ⟨RX6, "isAsleepOnWatch", "()Z"⟩
abbrev cX6_isBoyAsleepOnWatch : ByteArray := prog_8_method_13_code
def yX6_isBoyAsleepOnWatch : MethodName := ⟨RX6, "isBoyAsleepOnWatch", "()Z"⟩
abbrev cX6_become : ByteArray := prog_8_method_14_code
def yX6_become : MethodName := ⟨RX6, "become", "(LKeptLight$Station;)V"⟩
def RX7 : String := "KeptLight$Tape"
def TX7 : u_T := fun k => match k with
  | 0 => ("KeptLight$Tape", "bytes", "[I", true)
  | _ => ("KeptLight$Tape", "size", "I", false)
def tyX7 : Nat → FieldType := fun k => match k with
  | 0 => .array .int
  | _ => .int
abbrev wsX70 : List Cond := u_ws RX7 TX7 2
theorem nmX7 : ∀ a, a < 2 → ∀ b, b < 2 → a ≠ b → (TX7 a).2.1 ≠ (TX7 b).2.1 := by decide +kernel
theorem tyX7_ok : ∀ k, k < 2 → parseFieldDescriptor (TX7 k).2.2.1 = some (tyX7 k) := by decide +kernel
abbrev cX7_init : ByteArray := prog_9_method_1_code
def yX7_init : MethodName := ⟨RX7, "<init>", "()V"⟩
abbrev cX7_isFull : ByteArray := prog_9_method_2_code
def yX7_isFull : MethodName := ⟨RX7, "isFull", "()Z"⟩
abbrev cX7_append : ByteArray := prog_9_method_3_code
def yX7_append : MethodName := ⟨RX7, "append", "(I)V"⟩
abbrev cX7_readInto : ByteArray := prog_9_method_4_code
def yX7_readInto : MethodName := ⟨RX7, "readInto", "(LKeptLight$Sky;)I"⟩
abbrev cX7_byteAt : ByteArray := prog_9_method_5_code
def yX7_byteAt : MethodName := ⟨RX7, "byteAt", "(I)I"⟩
abbrev cX7_countDigits : ByteArray := prog_9_method_6_code
def yX7_countDigits : MethodName := ⟨RX7, "countDigits", "(I)I"⟩
abbrev cX7_numberAt : ByteArray := prog_9_method_7_code
def yX7_numberAt : MethodName := ⟨RX7, "numberAt", "(II)I"⟩
abbrev cX7_isDigit : ByteArray := prog_9_method_8_code
def yX7_isDigit : MethodName := ⟨RX7, "isDigit", "(I)Z"⟩
abbrev cX7_weatherOf : ByteArray := prog_9_method_9_code
def yX7_weatherOf : MethodName := ⟨RX7, "weatherOf", "(I)I"⟩
def RX8 : String := "KeptLight$Thought"
def TX8 : u_T := fun k => match k with
  | 0 => ("KeptLight$Thought", "station", "LKeptLight$Station;", true)
  | 1 => ("KeptLight$Thought", "unlit", "I", false)
  | 2 => ("KeptLight$Thought", "misses", "I", false)
  | 3 => ("KeptLight$Thought", "wrecks", "I", false)
  | 4 => ("KeptLight$Thought", "asleep", "I", false)
  | _ => ("KeptLight$Thought", "nextPlace", "I", false)
def tyX8 : Nat → FieldType := fun k => match k with
  | 0 => .object "KeptLight$Station"
  | 1 => .int
  | 2 => .int
  | 3 => .int
  | 4 => .int
  | _ => .int
abbrev wsX80 : List Cond := u_ws RX8 TX8 6
theorem nmX8 : ∀ a, a < 6 → ∀ b, b < 6 → a ≠ b → (TX8 a).2.1 ≠ (TX8 b).2.1 := by decide +kernel
theorem tyX8_ok : ∀ k, k < 6 → parseFieldDescriptor (TX8 k).2.2.1 = some (tyX8 k) := by decide +kernel
abbrev cX8_init : ByteArray := prog_10_method_1_code
def yX8_init : MethodName := ⟨RX8, "<init>", "()V"⟩
abbrev cX8_begin : ByteArray := prog_10_method_2_code
def yX8_begin : MethodName := ⟨RX8, "begin", "(LKeptLight$World;)V"⟩
abbrev cX8_passHours : ByteArray := prog_10_method_3_code
def yX8_passHours : MethodName := ⟨RX8, "passHours", "(LKeptLight$Fleet;I)I"⟩
abbrev cX8_passHour : ByteArray := prog_10_method_4_code
def yX8_passHour : MethodName := ⟨RX8, "passHour", "(LKeptLight$Fleet;)V"⟩
def RX9 : String := "KeptLight$World"
def TX9 : u_T := fun k => match k with
  | 0 => ("KeptLight$World", "station", "LKeptLight$Station;", true)
  | 1 => ("KeptLight$World", "fleet", "LKeptLight$Fleet;", true)
  | 2 => ("KeptLight$World", "book", "LKeptLight$LogBook;", true)
  | 3 => ("KeptLight$World", "unlit", "I", false)
  | 4 => ("KeptLight$World", "unlitHours", "I", false)
  | _ => ("KeptLight$World", "seed", "I", false)
def tyX9 : Nat → FieldType := fun k => match k with
  | 0 => .object "KeptLight$Station"
  | 1 => .object "KeptLight$Fleet"
  | 2 => .object "KeptLight$LogBook"
  | 3 => .int
  | 4 => .int
  | _ => .int
abbrev wsX90 : List Cond := u_ws RX9 TX9 6
theorem nmX9 : ∀ a, a < 6 → ∀ b, b < 6 → a ≠ b → (TX9 a).2.1 ≠ (TX9 b).2.1 := by decide +kernel
theorem tyX9_ok : ∀ k, k < 6 → parseFieldDescriptor (TX9 k).2.2.1 = some (tyX9 k) := by decide +kernel
abbrev cX9_init : ByteArray := prog_11_method_1_code
def yX9_init : MethodName := ⟨RX9, "<init>", "()V"⟩
abbrev cX9_passHour : ByteArray := prog_11_method_2_code
def yX9_passHour : MethodName := ⟨RX9, "passHour", "()V"⟩
abbrev cX9_meetShips : ByteArray := prog_11_method_3_code
def yX9_meetShips : MethodName := ⟨RX9, "meetShips", "(I)V"⟩
abbrev cX9_writeLog : ByteArray := prog_11_method_4_code
def yX9_writeLog : MethodName := ⟨RX9, "writeLog", "(I)V"⟩
abbrev cX9_enter : ByteArray := prog_11_method_5_code
def yX9_enter : MethodName := ⟨RX9, "enter", "(II)V"⟩
abbrev cX9_shipAgainst : ByteArray := prog_11_method_8_code
def yX9_shipAgainst : MethodName := ⟨RX9, "shipAgainst", "(I)I"⟩
abbrev cX9_entryOfDifference : ByteArray := prog_11_method_9_code
def yX9_entryOfDifference : MethodName := ⟨RX9, "entryOfDifference", "(I)I"⟩
abbrev cX9_countDifferences : ByteArray := prog_11_method_10_code
def yX9_countDifferences : MethodName := ⟨RX9, "countDifferences", "(I)I"⟩
def RX10 : String := "KeptLight"
def TX10 : u_T := fun k => match k with
  | 0 => ("KeptLight", "now", "LKeptLight$World;", true)
  | 1 => ("KeptLight", "kept", "LKeptLight$World;", true)
  | 2 => ("KeptLight", "thought", "LKeptLight$Thought;", true)
  | 3 => ("KeptLight", "tape", "LKeptLight$Tape;", true)
  | 4 => ("KeptLight", "draft", "LKeptLight$Sky;", true)
  | 5 => ("KeptLight", "shelves", "[LKeptLight$Shelf;", true)
  | 6 => ("KeptLight", "refusals", "[I", true)
  | _ => ("KeptLight", "hasImage", "Z", false)
def tyX10 : Nat → FieldType := fun k => match k with
  | 0 => .object "KeptLight$World"
  | 1 => .object "KeptLight$World"
  | 2 => .object "KeptLight$Thought"
  | 3 => .object "KeptLight$Tape"
  | 4 => .object "KeptLight$Sky"
  | 5 => .array (.object "KeptLight$Shelf")
  | 6 => .array .int
  | _ => .boolean
abbrev wsX100 : List Cond := u_ws RX10 TX10 8
theorem nmX10 : ∀ a, a < 8 → ∀ b, b < 8 → a ≠ b → (TX10 a).2.1 ≠ (TX10 b).2.1 := by decide +kernel
theorem tyX10_ok : ∀ k, k < 8 → parseFieldDescriptor (TX10 k).2.2.1 = some (tyX10 k) := by decide +kernel
abbrev cX10_init : ByteArray := prog_1_method_1_code
def yX10_init : MethodName := ⟨RX10, "<init>", "()V"⟩
abbrev cX10_feed : ByteArray := prog_1_method_10_code
def yX10_feed : MethodName := ⟨RX10, "feed", "(I)I"⟩
abbrev cX10_sky : ByteArray := prog_1_method_12_code
def yX10_sky : MethodName := ⟨RX10, "sky", "()I"⟩
abbrev cX10_dark : ByteArray := prog_1_method_14_code
def yX10_dark : MethodName := ⟨RX10, "dark", "(I)I"⟩
abbrev cX10_keeper : ByteArray := prog_1_method_15_code
def yX10_keeper : MethodName := ⟨RX10, "keeper", "(I)I"⟩
abbrev cX10_plan : ByteArray := prog_1_method_16_code
def yX10_plan : MethodName := ⟨RX10, "plan", "(II)I"⟩
abbrev cX10_tell : ByteArray := prog_1_method_18_code
def yX10_tell : MethodName := ⟨RX10, "tell", "(II)I"⟩
abbrev cX10_mayBeTold : ByteArray := prog_1_method_19_code
def yX10_mayBeTold : MethodName := ⟨RX10, "mayBeTold", "(II)Z"⟩
abbrev cX10_ship : ByteArray := prog_1_method_23_code
def yX10_ship : MethodName := ⟨RX10, "ship", "(II)I"⟩
abbrev cX10_shipOf : ByteArray := prog_1_method_24_code
def yX10_shipOf : MethodName := ⟨RX10, "shipOf", "(II)I"⟩
abbrev cX10_many : ByteArray := prog_1_method_26_code
def yX10_many : MethodName := ⟨RX10, "many", "(II)I"⟩
abbrev cX10_pass : ByteArray := prog_1_method_27_code
def yX10_pass : MethodName := ⟨RX10, "pass", "(I)I"⟩
abbrev cX10_logged : ByteArray := prog_1_method_31_code
def yX10_logged : MethodName := ⟨RX10, "logged", "(I)I"⟩
abbrev cX10_difference : ByteArray := prog_1_method_32_code
def yX10_difference : MethodName := ⟨RX10, "difference", "(II)I"⟩
abbrev cX10_differences : ByteArray := prog_1_method_33_code
def yX10_differences : MethodName := ⟨RX10, "differences", "(I)I"⟩
abbrev cX10_would : ByteArray := prog_1_method_37_code
def yX10_would : MethodName := ⟨RX10, "would", "(II)I"⟩
abbrev cX10_status : ByteArray := prog_1_method_48_code
def yX10_status : MethodName := ⟨RX10, "status", "(I)I"⟩
abbrev cX10_countFullShelves : ByteArray := prog_1_method_49_code
def yX10_countFullShelves : MethodName := ⟨RX10, "countFullShelves", "()I"⟩
abbrev cX10_refuse : ByteArray := prog_1_method_50_code
def yX10_refuse : MethodName := ⟨RX10, "refuse", "(I)I"⟩
abbrev cX10_shelfAt : ByteArray := prog_1_method_54_code
def yX10_shelfAt : MethodName := ⟨RX10, "shelfAt", "(I)LKeptLight$Shelf;"⟩
abbrev cX10_isKeeperOrNone : ByteArray := prog_1_method_55_code
def yX10_isKeeperOrNone : MethodName := ⟨RX10, "isKeeperOrNone", "(I)Z"⟩
abbrev cX10_isHourOfDay : ByteArray := prog_1_method_56_code
def yX10_isHourOfDay : MethodName := ⟨RX10, "isHourOfDay", "(I)Z"⟩
abbrev cX10_areHours : ByteArray := prog_1_method_57_code
def yX10_areHours : MethodName := ⟨RX10, "areHours", "(I)Z"⟩
abbrev cX10_isKind : ByteArray := prog_1_method_58_code
def yX10_isKind : MethodName := ⟨RX10, "isKind", "(I)Z"⟩
abbrev cX10_isWithin : ByteArray := prog_1_method_59_code
def yX10_isWithin : MethodName := ⟨RX10, "isWithin", "(III)Z"⟩
abbrev cX10_kindAbove : ByteArray := prog_1_method_60_code
def yX10_kindAbove : MethodName := ⟨RX10, "kindAbove", "(I)I"⟩
abbrev cX10_isUnder : ByteArray := prog_1_method_61_code
def yX10_isUnder : MethodName := ⟨RX10, "isUnder", "(II)Z"⟩
abbrev cX10_lacks : ByteArray := prog_1_method_62_code
def yX10_lacks : MethodName := ⟨RX10, "lacks", "(IZZIZ)I"⟩
abbrev cX10_fateIn : ByteArray := prog_1_method_63_code
def yX10_fateIn : MethodName := ⟨RX10, "fateIn", "(LKeptLight$Station;I)I"⟩
def RX11 : String := "KeptLightModel"
def TX11 : u_T := fun k => match k with
  | _ => ("", "", "", false)
def tyX11 : Nat → FieldType := fun k => match k with
  | _ => .int
abbrev wsX110 : List Cond := u_ws RX11 TX11 0
theorem nmX11 : ∀ a, a < 0 → ∀ b, b < 0 → a ≠ b → (TX11 a).2.1 ≠ (TX11 b).2.1 := by decide +kernel
theorem tyX11_ok : ∀ k, k < 0 → parseFieldDescriptor (TX11 k).2.2.1 = some (tyX11 k) := by decide +kernel
def RJx145de : String := "java/io/Serializable"
def TJx145de : u_T := fun k => match k with
  | _ => ("", "", "", false)
def tyJx145de : Nat → FieldType := fun k => match k with
  | _ => .int
abbrev wsJx145de0 : List Cond := u_ws RJx145de TJx145de 0
theorem nmJx145de : ∀ a, a < 0 → ∀ b, b < 0 → a ≠ b → (TJx145de a).2.1 ≠ (TJx145de b).2.1 := by decide +kernel
theorem tyJx145de_ok : ∀ k, k < 0 → parseFieldDescriptor (TJx145de k).2.2.1 = some (tyJx145de k) := by decide +kernel
def RJ5 : String := "java/lang/AbstractStringBuilder"
def TJ5 : u_T := fun k => match k with
  | _ => ("", "", "", false)
def tyJ5 : Nat → FieldType := fun k => match k with
  | _ => .int
abbrev wsJ50 : List Cond := u_ws RJ5 TJ5 0
theorem nmJ5 : ∀ a, a < 0 → ∀ b, b < 0 → a ≠ b → (TJ5 a).2.1 ≠ (TJ5 b).2.1 := by decide +kernel
theorem tyJ5_ok : ∀ k, k < 0 → parseFieldDescriptor (TJ5 k).2.2.1 = some (tyJ5 k) := by decide +kernel
abbrev cJ5_init_d00df : ByteArray := prog_14_method_2_code
def yJ5_init_d00df : MethodName := ⟨RJ5, "<init>", "(I)V"⟩
abbrev cJ5_length_8abf5 : ByteArray := prog_14_method_6_code
def yJ5_length_8abf5 : MethodName := ⟨RJ5, "length", "()I"⟩
abbrev cJ5_ensureCapacityInternal_d00df : ByteArray := prog_14_method_9_code
def yJ5_ensureCapacityInternal_d00df : MethodName := ⟨RJ5, "ensureCapacityInternal", "(I)V"⟩
abbrev cJ5_newCapacity_0f7a4 : ByteArray := prog_14_method_10_code
def yJ5_newCapacity_0f7a4 : MethodName := ⟨RJ5, "newCapacity", "(I)I"⟩
abbrev cJ5_inflate_da8c8 : ByteArray := prog_14_method_11_code
def yJ5_inflate_da8c8 : MethodName := ⟨RJ5, "inflate", "()V"⟩
abbrev cJ5_append_cf1ce : ByteArray := prog_14_method_22_code
def yJ5_append_cf1ce : MethodName := ⟨RJ5, "append", "(Ljava/lang/String;)Ljava/lang/AbstractStringBuilder;"⟩
abbrev cJ5_appendNull_278bc : ByteArray := prog_14_method_26_code
def yJ5_appendNull_278bc : MethodName := ⟨RJ5, "appendNull", "()Ljava/lang/AbstractStringBuilder;"⟩
abbrev cJ5_append_3fe6f : ByteArray := prog_14_method_31_code
def yJ5_append_3fe6f : MethodName := ⟨RJ5, "append", "(C)Ljava/lang/AbstractStringBuilder;"⟩
abbrev cJ5_append_c97b9 : ByteArray := prog_14_method_32_code
def yJ5_append_c97b9 : MethodName := ⟨RJ5, "append", "(I)Ljava/lang/AbstractStringBuilder;"⟩
abbrev cJ5_getValue_6d5f1 : ByteArray := prog_14_method_64_code
def yJ5_getValue_6d5f1 : MethodName := ⟨RJ5, "getValue", "()[B"⟩
abbrev cJ5_isLatin1_aae02 : ByteArray := prog_14_method_68_code
def yJ5_isLatin1_aae02 : MethodName := ⟨RJ5, "isLatin1", "()Z"⟩
abbrev cJ5_inflateIfNeededFor_a7421 : ByteArray := prog_14_method_71_code
def yJ5_inflateIfNeededFor_a7421 : MethodName := ⟨RJ5, "inflateIfNeededFor", "(Ljava/lang/String;)V"⟩
abbrev cJ5_putStringAt_47b60 : ByteArray := prog_14_method_73_code
def yJ5_putStringAt_47b60 : MethodName := ⟨RJ5, "putStringAt", "(ILjava/lang/String;)V"⟩
def RJx2cfe8 : String := "java/lang/Appendable"
def TJx2cfe8 : u_T := fun k => match k with
  | _ => ("", "", "", false)
def tyJx2cfe8 : Nat → FieldType := fun k => match k with
  | _ => .int
abbrev wsJx2cfe80 : List Cond := u_ws RJx2cfe8 TJx2cfe8 0
theorem nmJx2cfe8 : ∀ a, a < 0 → ∀ b, b < 0 → a ≠ b → (TJx2cfe8 a).2.1 ≠ (TJx2cfe8 b).2.1 := by decide +kernel
theorem tyJx2cfe8_ok : ∀ k, k < 0 → parseFieldDescriptor (TJx2cfe8 k).2.2.1 = some (tyJx2cfe8 k) := by decide +kernel
def RJx9f9b0 : String := "java/lang/CharSequence"
def TJx9f9b0 : u_T := fun k => match k with
  | _ => ("", "", "", false)
def tyJx9f9b0 : Nat → FieldType := fun k => match k with
  | _ => .int
abbrev wsJx9f9b00 : List Cond := u_ws RJx9f9b0 TJx9f9b0 0
theorem nmJx9f9b0 : ∀ a, a < 0 → ∀ b, b < 0 → a ≠ b → (TJx9f9b0 a).2.1 ≠ (TJx9f9b0 b).2.1 := by decide +kernel
theorem tyJx9f9b0_ok : ∀ k, k < 0 → parseFieldDescriptor (TJx9f9b0 k).2.2.1 = some (tyJx9f9b0 k) := by decide +kernel
def RJx8e188 : String := "java/lang/Cloneable"
def TJx8e188 : u_T := fun k => match k with
  | _ => ("", "", "", false)
def tyJx8e188 : Nat → FieldType := fun k => match k with
  | _ => .int
abbrev wsJx8e1880 : List Cond := u_ws RJx8e188 TJx8e188 0
theorem nmJx8e188 : ∀ a, a < 0 → ∀ b, b < 0 → a ≠ b → (TJx8e188 a).2.1 ≠ (TJx8e188 b).2.1 := by decide +kernel
theorem tyJx8e188_ok : ∀ k, k < 0 → parseFieldDescriptor (TJx8e188 k).2.2.1 = some (tyJx8e188 k) := by decide +kernel
def RJxb160c : String := "java/lang/Comparable"
def TJxb160c : u_T := fun k => match k with
  | _ => ("", "", "", false)
def tyJxb160c : Nat → FieldType := fun k => match k with
  | _ => .int
abbrev wsJxb160c0 : List Cond := u_ws RJxb160c TJxb160c 0
theorem nmJxb160c : ∀ a, a < 0 → ∀ b, b < 0 → a ≠ b → (TJxb160c a).2.1 ≠ (TJxb160c b).2.1 := by decide +kernel
theorem tyJxb160c_ok : ∀ k, k < 0 → parseFieldDescriptor (TJxb160c k).2.2.1 = some (tyJxb160c k) := by decide +kernel
def RJ6 : String := "java/lang/Integer"
def TJ6 : u_T := fun k => match k with
  | _ => ("", "", "", false)
def tyJ6 : Nat → FieldType := fun k => match k with
  | _ => .int
abbrev wsJ60 : List Cond := u_ws RJ6 TJ6 0
theorem nmJ6 : ∀ a, a < 0 → ∀ b, b < 0 → a ≠ b → (TJ6 a).2.1 ≠ (TJ6 b).2.1 := by decide +kernel
theorem tyJ6_ok : ∀ k, k < 0 → parseFieldDescriptor (TJ6 k).2.2.1 = some (tyJ6 k) := by decide +kernel
abbrev cJ6_getChars_ba4f3 : ByteArray := prog_16_method_12_code
def yJ6_getChars_ba4f3 : MethodName := ⟨RJ6, "getChars", "(II[B)I"⟩
abbrev cJ6_stringSize_0f7a4 : ByteArray := prog_16_method_13_code
def yJ6_stringSize_0f7a4 : MethodName := ⟨RJ6, "stringSize", "(I)I"⟩
def RJ9 : String := "java/lang/Math"
def TJ9 : u_T := fun k => match k with
  | _ => ("", "", "", false)
def tyJ9 : Nat → FieldType := fun k => match k with
  | _ => .int
abbrev wsJ90 : List Cond := u_ws RJ9 TJ9 0
theorem nmJ9 : ∀ a, a < 0 → ∀ b, b < 0 → a ≠ b → (TJ9 a).2.1 ≠ (TJ9 b).2.1 := by decide +kernel
theorem tyJ9_ok : ∀ k, k < 0 → parseFieldDescriptor (TJ9 k).2.2.1 = some (tyJ9 k) := by decide +kernel
abbrev cJ9_floorMod_7cf53 : ByteArray := prog_17_method_50_code
def yJ9_floorMod_7cf53 : MethodName := ⟨RJ9, "floorMod", "(II)I"⟩
abbrev cJ9_max_7cf53 : ByteArray := prog_17_method_65_code
def yJ9_max_7cf53 : MethodName := ⟨RJ9, "max", "(II)I"⟩
abbrev cJ9_min_7cf53 : ByteArray := prog_17_method_69_code
def yJ9_min_7cf53 : MethodName := ⟨RJ9, "min", "(II)I"⟩
def RJxd2413 : String := "java/lang/Number"
def TJxd2413 : u_T := fun k => match k with
  | _ => ("", "", "", false)
def tyJxd2413 : Nat → FieldType := fun k => match k with
  | _ => .int
abbrev wsJxd24130 : List Cond := u_ws RJxd2413 TJxd2413 0
theorem nmJxd2413 : ∀ a, a < 0 → ∀ b, b < 0 → a ≠ b → (TJxd2413 a).2.1 ≠ (TJxd2413 b).2.1 := by decide +kernel
theorem tyJxd2413_ok : ∀ k, k < 0 → parseFieldDescriptor (TJxd2413 k).2.2.1 = some (tyJxd2413 k) := by decide +kernel
def RJ0 : String := "java/lang/String"
def TJ0 : u_T := fun k => match k with
  | 0 => ("java/lang/String", "value", "[B", true)
  | 1 => ("java/lang/String", "coder", "B", true)
  | 2 => ("java/lang/String", "hash", "I", false)
  | _ => ("java/lang/String", "hashIsZero", "Z", false)
def tyJ0 : Nat → FieldType := fun k => match k with
  | 0 => .array .byte
  | 1 => .byte
  | 2 => .int
  | _ => .boolean
abbrev wsJ00 : List Cond := u_ws RJ0 TJ0 4
theorem nmJ0 : ∀ a, a < 4 → ∀ b, b < 4 → a ≠ b → (TJ0 a).2.1 ≠ (TJ0 b).2.1 := by decide +kernel
theorem tyJ0_ok : ∀ k, k < 4 → parseFieldDescriptor (TJ0 k).2.2.1 = some (tyJ0 k) := by decide +kernel
abbrev cJ0_init_81219 : ByteArray := prog_19_method_53_code
def yJ0_init_81219 : MethodName := ⟨RJ0, "<init>", "(Ljava/lang/StringBuilder;)V"⟩
abbrev cJ0_length_8abf5 : ByteArray := prog_19_method_54_code
def yJ0_length_8abf5 : MethodName := ⟨RJ0, "length", "()I"⟩
abbrev cJ0_charAt_5068e : ByteArray := prog_19_method_56_code
def yJ0_charAt_5068e : MethodName := ⟨RJ0, "charAt", "(I)C"⟩
abbrev cJ0_getBytes_840e7 : ByteArray := prog_19_method_147_code
def yJ0_getBytes_840e7 : MethodName := ⟨RJ0, "getBytes", "([BIB)V"⟩
abbrev cJ0_init_db425 : ByteArray := prog_19_method_150_code
def yJ0_init_db425 : MethodName := ⟨RJ0, "<init>", "(Ljava/lang/AbstractStringBuilder;Ljava/lang/Void;)V"⟩
abbrev cJ0_coder_7d493 : ByteArray := prog_19_method_152_code
def yJ0_coder_7d493 : MethodName := ⟨RJ0, "coder", "()B"⟩
abbrev cJ0_isLatin1_aae02 : ByteArray := prog_19_method_154_code
def yJ0_isLatin1_aae02 : MethodName := ⟨RJ0, "isLatin1", "()Z"⟩
abbrev cJ0_checkIndex_df160 : ByteArray := prog_19_method_155_code
def yJ0_checkIndex_df160 : MethodName := ⟨RJ0, "checkIndex", "(II)V"⟩
abbrev cJ0_checkBoundsOffCount_cabcc : ByteArray := prog_19_method_157_code
def yJ0_checkBoundsOffCount_cabcc : MethodName := ⟨RJ0, "checkBoundsOffCount", "(III)I"⟩
abbrev cJ0_checkBoundsBeginEnd_23922 : ByteArray := prog_19_method_158_code
def yJ0_checkBoundsBeginEnd_23922 : MethodName := ⟨RJ0, "checkBoundsBeginEnd", "(III)V"⟩
def RJ4 : String := "java/lang/StringBuilder"
def TJ4 : u_T := fun k => match k with
  | 0 => ("java/lang/AbstractStringBuilder", "value", "[B", false)
  | 1 => ("java/lang/AbstractStringBuilder", "coder", "B", false)
  | 2 => ("java/lang/AbstractStringBuilder", "maybeLatin1", "Z", false)
  | _ => ("java/lang/AbstractStringBuilder", "count", "I", false)
def tyJ4 : Nat → FieldType := fun k => match k with
  | 0 => .array .byte
  | 1 => .byte
  | 2 => .boolean
  | _ => .int
abbrev wsJ40 : List Cond := u_ws RJ4 TJ4 4
theorem nmJ4 : ∀ a, a < 4 → ∀ b, b < 4 → a ≠ b → (TJ4 a).2.1 ≠ (TJ4 b).2.1 := by decide +kernel
theorem tyJ4_ok : ∀ k, k < 4 → parseFieldDescriptor (TJ4 k).2.2.1 = some (tyJ4 k) := by decide +kernel
abbrev cJ4_init_da8c8 : ByteArray := prog_20_method_1_code
def yJ4_init_da8c8 : MethodName := ⟨RJ4, "<init>", "()V"⟩
abbrev cJ4_append_15ec4 : ByteArray := prog_20_method_7_code
def yJ4_append_15ec4 : MethodName := ⟨RJ4, "append", "(Ljava/lang/String;)Ljava/lang/StringBuilder;"⟩
abbrev cJ4_append_cf468 : ByteArray := prog_20_method_14_code
def yJ4_append_cf468 : MethodName := ⟨RJ4, "append", "(C)Ljava/lang/StringBuilder;"⟩
abbrev cJ4_append_bf812 : ByteArray := prog_20_method_15_code
def yJ4_append_bf812 : MethodName := ⟨RJ4, "append", "(I)Ljava/lang/StringBuilder;"⟩
abbrev cJ4_toString_0e30d : ByteArray := prog_20_method_42_code
def yJ4_toString_0e30d : MethodName := ⟨RJ4, "toString", "()Ljava/lang/String;"⟩
abbrev cJ4_length_8abf5 : ByteArray := prog_20_method_93_code
def yJ4_length_8abf5 : MethodName := ⟨RJ4, "length", "()I"⟩
def RJ1 : String := "java/lang/StringLatin1"
def TJ1 : u_T := fun k => match k with
  | _ => ("", "", "", false)
def tyJ1 : Nat → FieldType := fun k => match k with
  | _ => .int
abbrev wsJ10 : List Cond := u_ws RJ1 TJ1 0
theorem nmJ1 : ∀ a, a < 0 → ∀ b, b < 0 → a ≠ b → (TJ1 a).2.1 ≠ (TJ1 b).2.1 := by decide +kernel
theorem tyJ1_ok : ∀ k, k < 0 → parseFieldDescriptor (TJ1 k).2.2.1 = some (tyJ1 k) := by decide +kernel
abbrev cJ1_charAt_3b067 : ByteArray := prog_21_method_2_code
def yJ1_charAt_3b067 : MethodName := ⟨RJ1, "charAt", "([BI)C"⟩
abbrev cJ1_canEncode_fc78d : ByteArray := prog_21_method_3_code
def yJ1_canEncode_fc78d : MethodName := ⟨RJ1, "canEncode", "(C)Z"⟩
abbrev cJ1_inflate_0e8fd : ByteArray := prog_21_method_50_code
def yJ1_inflate_0e8fd : MethodName := ⟨RJ1, "inflate", "([BI[BII)V"⟩
def RJ2 : String := "java/lang/StringUTF16"
def TJ2 : u_T := fun k => match k with
  | _ => ("", "", "", false)
def tyJ2 : Nat → FieldType := fun k => match k with
  | _ => .int
abbrev wsJ20 : List Cond := u_ws RJ2 TJ2 0
theorem nmJ2 : ∀ a, a < 0 → ∀ b, b < 0 → a ≠ b → (TJ2 a).2.1 ≠ (TJ2 b).2.1 := by decide +kernel
theorem tyJ2_ok : ∀ k, k < 0 → parseFieldDescriptor (TJ2 k).2.2.1 = some (tyJ2 k) := by decide +kernel
abbrev cJ2_newBytesFor_77867 : ByteArray := prog_22_method_2_code
def yJ2_newBytesFor_77867 : MethodName := ⟨RJ2, "newBytesFor", "(I)[B"⟩
abbrev cJ2_newBytesLength_0f7a4 : ByteArray := prog_22_method_3_code
def yJ2_newBytesLength_0f7a4 : MethodName := ⟨RJ2, "newBytesLength", "(I)I"⟩
abbrev cJ2_putChar_b72d1 : ByteArray := prog_22_method_4_code
def yJ2_putChar_b72d1 : MethodName := ⟨RJ2, "putChar", "([BII)V"⟩
abbrev cJ2_getChar_3b067 : ByteArray := prog_22_method_5_code
def yJ2_getChar_3b067 : MethodName := ⟨RJ2, "getChar", "([BI)C"⟩
abbrev cJ2_length_9d52b : ByteArray := prog_22_method_6_code
def yJ2_length_9d52b : MethodName := ⟨RJ2, "length", "([B)I"⟩
abbrev cJ2_coderFromArrayLen_85cad : ByteArray := prog_22_method_15_code
def yJ2_coderFromArrayLen_85cad : MethodName := ⟨RJ2, "coderFromArrayLen", "([BI)B"⟩
abbrev cJ2_compress_39247 : ByteArray := prog_22_method_17_code
def yJ2_compress_39247 : MethodName := ⟨RJ2, "compress", "([BII)[B"⟩
abbrev cJ2_compress_5af95 : ByteArray := prog_22_method_22_code
def yJ2_compress_5af95 : MethodName := ⟨RJ2, "compress", "([BI[BII)I"⟩
abbrev cJ2_putCharSB_b72d1 : ByteArray := prog_22_method_71_code
def yJ2_putCharSB_b72d1 : MethodName := ⟨RJ2, "putCharSB", "([BII)V"⟩
abbrev cJ2_getChars_46870 : ByteArray := prog_22_method_77_code
def yJ2_getChars_46870 : MethodName := ⟨RJ2, "getChars", "(III[B)I"⟩
abbrev cJ2_putCharsAt_cd4e5 : ByteArray := prog_22_method_81_code
def yJ2_putCharsAt_cd4e5 : MethodName := ⟨RJ2, "putCharsAt", "([BICCCC)I"⟩
abbrev cJ2_charAt_3b067 : ByteArray := prog_22_method_83_code
def yJ2_charAt_3b067 : MethodName := ⟨RJ2, "charAt", "([BI)C"⟩
abbrev cJ2_inflate_0e8fd : ByteArray := prog_22_method_86_code
def yJ2_inflate_0e8fd : MethodName := ⟨RJ2, "inflate", "([BI[BII)V"⟩
abbrev cJ2_getChars_ba4f3 : ByteArray := prog_22_method_89_code
def yJ2_getChars_ba4f3 : MethodName := ⟨RJ2, "getChars", "(II[B)I"⟩
abbrev cJ2_checkIndex_2214a : ByteArray := prog_22_method_91_code
def yJ2_checkIndex_2214a : MethodName := ⟨RJ2, "checkIndex", "(I[B)V"⟩
abbrev cJ2_checkBoundsBeginEnd_d044e : ByteArray := prog_22_method_93_code
def yJ2_checkBoundsBeginEnd_d044e : MethodName := ⟨RJ2, "checkBoundsBeginEnd", "(II[B)V"⟩
abbrev cJ2_checkBoundsOffCount_d044e : ByteArray := prog_22_method_94_code
def yJ2_checkBoundsOffCount_d044e : MethodName := ⟨RJ2, "checkBoundsOffCount", "(II[B)V"⟩
def RJ10 : String := "java/lang/System"
def TJ10 : u_T := fun k => match k with
  | _ => ("", "", "", false)
def tyJ10 : Nat → FieldType := fun k => match k with
  | _ => .int
abbrev wsJ100 : List Cond := u_ws RJ10 TJ10 0
theorem nmJ10 : ∀ a, a < 0 → ∀ b, b < 0 → a ≠ b → (TJ10 a).2.1 ≠ (TJ10 b).2.1 := by decide +kernel
theorem tyJ10_ok : ∀ k, k < 0 → parseFieldDescriptor (TJ10 k).2.2.1 = some (tyJ10 k) := by decide +kernel
def RJxfd54e : String := "java/lang/constant/Constable"
def TJxfd54e : u_T := fun k => match k with
  | _ => ("", "", "", false)
def tyJxfd54e : Nat → FieldType := fun k => match k with
  | _ => .int
abbrev wsJxfd54e0 : List Cond := u_ws RJxfd54e TJxfd54e 0
theorem nmJxfd54e : ∀ a, a < 0 → ∀ b, b < 0 → a ≠ b → (TJxfd54e a).2.1 ≠ (TJxfd54e b).2.1 := by decide +kernel
theorem tyJxfd54e_ok : ∀ k, k < 0 → parseFieldDescriptor (TJxfd54e k).2.2.1 = some (tyJxfd54e k) := by decide +kernel
def RJx3cf43 : String := "java/lang/constant/ConstantDesc"
def TJx3cf43 : u_T := fun k => match k with
  | _ => ("", "", "", false)
def tyJx3cf43 : Nat → FieldType := fun k => match k with
  | _ => .int
abbrev wsJx3cf430 : List Cond := u_ws RJx3cf43 TJx3cf43 0
theorem nmJx3cf43 : ∀ a, a < 0 → ∀ b, b < 0 → a ≠ b → (TJx3cf43 a).2.1 ≠ (TJx3cf43 b).2.1 := by decide +kernel
theorem tyJx3cf43_ok : ∀ k, k < 0 → parseFieldDescriptor (TJx3cf43 k).2.2.1 = some (tyJx3cf43 k) := by decide +kernel
def RJ7 : String := "java/util/Arrays"
def TJ7 : u_T := fun k => match k with
  | _ => ("", "", "", false)
def tyJ7 : Nat → FieldType := fun k => match k with
  | _ => .int
abbrev wsJ70 : List Cond := u_ws RJ7 TJ7 0
theorem nmJ7 : ∀ a, a < 0 → ∀ b, b < 0 → a ≠ b → (TJ7 a).2.1 ≠ (TJ7 b).2.1 := by decide +kernel
theorem tyJ7_ok : ∀ k, k < 0 → parseFieldDescriptor (TJ7 k).2.2.1 = some (tyJ7 k) := by decide +kernel
abbrev cJ7_fill_53178 : ByteArray := prog_24_method_103_code
def yJ7_fill_53178 : MethodName := ⟨RJ7, "fill", "([II)V"⟩
abbrev cJ7_copyOf_9075b : ByteArray := prog_24_method_121_code
def yJ7_copyOf_9075b : MethodName := ⟨RJ7, "copyOf", "([BI)[B"⟩
abbrev cJ7_checkLength_df160 : ByteArray := prog_24_method_131_code
def yJ7_checkLength_df160 : MethodName := ⟨RJ7, "checkLength", "(II)V"⟩
abbrev cJ7_copyOfRange_39247 : ByteArray := prog_24_method_132_code
def yJ7_copyOfRange_39247 : MethodName := ⟨RJ7, "copyOfRange", "([BII)[B"⟩
abbrev cJ7_copyOfRangeByte_39247 : ByteArray := prog_24_method_133_code
def yJ7_copyOfRangeByte_39247 : MethodName := ⟨RJ7, "copyOfRangeByte", "([BII)[B"⟩
def RJ8 : String := "jdk/internal/util/ArraysSupport"
def TJ8 : u_T := fun k => match k with
  | _ => ("", "", "", false)
def tyJ8 : Nat → FieldType := fun k => match k with
  | _ => .int
abbrev wsJ80 : List Cond := u_ws RJ8 TJ8 0
theorem nmJ8 : ∀ a, a < 0 → ∀ b, b < 0 → a ≠ b → (TJ8 a).2.1 ≠ (TJ8 b).2.1 := by decide +kernel
theorem tyJ8_ok : ∀ k, k < 0 → parseFieldDescriptor (TJ8 k).2.2.1 = some (tyJ8 k) := by decide +kernel
abbrev cJ8_newLength_cabcc : ByteArray := prog_25_method_27_code
def yJ8_newLength_cabcc : MethodName := ⟨RJ8, "newLength", "(III)I"⟩
abbrev cJ8_hugeLength_7cf53 : ByteArray := prog_25_method_28_code
def yJ8_hugeLength_7cf53 : MethodName := ⟨RJ8, "hugeLength", "(II)I"⟩
def RJ3 : String := "jdk/internal/util/Preconditions"
def TJ3 : u_T := fun k => match k with
  | _ => ("", "", "", false)
def tyJ3 : Nat → FieldType := fun k => match k with
  | _ => .int
abbrev wsJ30 : List Cond := u_ws RJ3 TJ3 0
theorem nmJ3 : ∀ a, a < 0 → ∀ b, b < 0 → a ≠ b → (TJ3 a).2.1 ≠ (TJ3 b).2.1 := by decide +kernel
theorem tyJ3_ok : ∀ k, k < 0 → parseFieldDescriptor (TJ3 k).2.2.1 = some (tyJ3 k) := by decide +kernel
abbrev cJ3_checkIndex_8e157 : ByteArray := prog_26_method_11_code
def yJ3_checkIndex_8e157 : MethodName := ⟨RJ3, "checkIndex", "(IILjava/util/function/BiFunction;)I"⟩
abbrev cJ3_checkFromToIndex_8c36e : ByteArray := prog_26_method_12_code
def yJ3_checkFromToIndex_8c36e : MethodName := ⟨RJ3, "checkFromToIndex", "(IIILjava/util/function/BiFunction;)I"⟩
abbrev cJ3_checkFromIndexSize_8c36e : ByteArray := prog_26_method_13_code
def yJ3_checkFromIndexSize_8c36e : MethodName := ⟨RJ3, "checkFromIndexSize", "(IIILjava/util/function/BiFunction;)I"⟩
def RL : String := "KeptLightLaw"
abbrev cL_at : ByteArray := method_2_code
def yL_at : MethodName := ⟨RL, "at", "([II)I"⟩
abbrev cL_feeds : ByteArray := method_3_code
def yL_feeds : MethodName := ⟨RL, "feeds", "(LKeptLight;Ljava/lang/String;)I"⟩
abbrev cL_runs : ByteArray := method_4_code
def yL_runs : MethodName := ⟨RL, "runs", "([I)I"⟩
abbrev cL_weather : ByteArray := method_5_code
def yL_weather : MethodName := ⟨RL, "weather", "([II)I"⟩
abbrev cL_length : ByteArray := method_6_code
def yL_length : MethodName := ⟨RL, "length", "([II)I"⟩
abbrev cL_sky : ByteArray := method_7_code
def yL_sky : MethodName := ⟨RL, "sky", "([I)Ljava/lang/String;"⟩
abbrev cL_keepers : ByteArray := method_9_code
def yL_keepers : MethodName := ⟨RL, "keepers", "([I)I"⟩
abbrev cL_rank : ByteArray := method_10_code
def yL_rank : MethodName := ⟨RL, "rank", "([II)I"⟩
abbrev cL_watch : ByteArray := method_11_code
def yL_watch : MethodName := ⟨RL, "watch", "([II)I"⟩
abbrev cL_dawn : ByteArray := method_12_code
def yL_dawn : MethodName := ⟨RL, "dawn", "([I)I"⟩
abbrev cL_dusk : ByteArray := method_13_code
def yL_dusk : MethodName := ⟨RL, "dusk", "([I)I"⟩
abbrev cL_wick : ByteArray := method_14_code
def yL_wick : MethodName := ⟨RL, "wick", "([I)I"⟩
abbrev cL_oil : ByteArray := method_15_code
def yL_oil : MethodName := ⟨RL, "oil", "([I)I"⟩
abbrev cL_coal : ByteArray := method_16_code
def yL_coal : MethodName := ⟨RL, "coal", "([I)I"⟩
abbrev cL_build : ByteArray := method_17_code
def yL_build : MethodName := ⟨RL, "build", "([I)LKeptLight;"⟩
abbrev cL_law : ByteArray := code
def yL_law : MethodName := ⟨RL, "law", "([I)Z"⟩
abbrev vwCl : List vw_C := [(RX0, TX0, 5), (RX1, TX1, 6), (RX2, TX2, 6), (RX3, TX3, 5), (RX4, TX4, 3), (RX5, TX5, 4), (RX6, TX6, 17), (RX7, TX7, 2), (RX8, TX8, 6), (RX9, TX9, 6), (RX10, TX10, 8), (RJ0, TJ0, 4), (RJ4, TJ4, 4)]
set_option maxRecDepth 20000 in
theorem kx_in0 : ∀ w ∈ wsX00, w ∈ lw_tbl := by decide +kernel
set_option maxRecDepth 20000 in
theorem kx_in1 : ∀ w ∈ wsX10, w ∈ lw_tbl := by decide +kernel
set_option maxRecDepth 20000 in
theorem kx_in2 : ∀ w ∈ wsX20, w ∈ lw_tbl := by decide +kernel
set_option maxRecDepth 20000 in
theorem kx_in3 : ∀ w ∈ wsX30, w ∈ lw_tbl := by decide +kernel
set_option maxRecDepth 20000 in
theorem kx_in4 : ∀ w ∈ wsX40, w ∈ lw_tbl := by decide +kernel
set_option maxRecDepth 20000 in
theorem kx_in5 : ∀ w ∈ wsX50, w ∈ lw_tbl := by decide +kernel
set_option maxRecDepth 20000 in
theorem kx_in6 : ∀ w ∈ wsX60, w ∈ lw_tbl := by decide +kernel
set_option maxRecDepth 20000 in
theorem kx_in7 : ∀ w ∈ wsX70, w ∈ lw_tbl := by decide +kernel
set_option maxRecDepth 20000 in
theorem kx_in8 : ∀ w ∈ wsX80, w ∈ lw_tbl := by decide +kernel
set_option maxRecDepth 20000 in
theorem kx_in9 : ∀ w ∈ wsX90, w ∈ lw_tbl := by decide +kernel
set_option maxRecDepth 20000 in
theorem kx_in10 : ∀ w ∈ wsX100, w ∈ lw_tbl := by decide +kernel
abbrev kx_F : Type := Option (Nat × (Nat → Nat))
def kx_cells : List (Nat × Nat) := [(10, 0), (9, 0), (6, 0), (5, 0), (35, 0), (36, 0), (1, 0), (20, 0), (21, 0), (22, 0), (23, 0), (24, 0), (0, 0), (37, 0), (2, 0), (25, 0), (26, 0), (27, 0), (28, 0), (29, 0), (3, 0), (30, 0), (31, 0), (32, 0), (33, 0), (9, 1), (6, 1), (5, 1), (35, 1), (36, 1), (1, 1), (20, 1), (21, 1), (22, 1), (23, 1), (24, 1), (0, 1), (37, 1), (2, 1), (25, 1), (26, 1), (27, 1), (28, 1), (29, 1), (3, 1), (30, 1), (31, 1), (32, 1), (33, 1), (8, 0), (6, 2), (5, 2), (35, 2), (36, 2), (1, 2), (20, 2), (21, 2), (22, 2), (23, 2), (24, 2), (0, 2), (37, 2), (7, 0), (38, 0), (5, 3), (35, 3), (36, 3), (39, 0), (40, 0), (4, 0), (34, 0), (4, 1), (34, 1), (4, 2), (34, 2), (4, 3), (34, 3), (4, 4), (34, 4), (4, 5), (34, 5), (4, 6), (34, 6), (4, 7), (34, 7)]
def kx_kinds : List (Nat × Nat) := [(0, 0), (0, 1), (0, 2), (0, 3), (0, 4), (0, 5), (0, 6), (0, 7), (0, 8), (0, 9), (0, 10), (9, 0), (9, 0), (9, 0), (9, 0), (9, 0), (9, 0), (9, 0), (9, 0), (9, 0), (1, 6), (1, 6), (1, 6), (1, 6), (1, 6), (1, 200), (1, 200), (1, 200), (1, 200), (1, 200), (1, 400), (1, 400), (1, 400), (1, 400), (2, 40), (1, 20), (1, 20), (1, 24), (1, 250), (4, 8), (1, 5), (9, 0), (9, 0), (9, 0), (9, 0), (9, 0), (9, 0), (9, 0), (9, 0), (9, 0), (9, 0), (9, 0), (9, 0)]
def kx_kind (t : Nat) : Nat × Nat := kx_kinds.getD t (9, 0)
def kx_ftl : List (List kx_F) := [[none, none, none, none, none], [some (20, fun o => o), some (21, fun o => o), some (22, fun o => o), some (23, fun o => o), some (24, fun o => o), none], [some (25, fun o => o), some (26, fun o => o), some (27, fun o => o), some (28, fun o => o), some (29, fun o => o), none], [some (30, fun o => o), some (31, fun o => o), some (32, fun o => o), some (33, fun o => o), none], [some (34, fun o => o), none, none], [some (35, fun o => o), some (36, fun o => o), none, none], [some (5, fun o => o), some (1, fun o => o), some (0, fun o => o), some (37, fun o => o), none, none, none, none, none, none, none, none, none, none, none, none, none], [some (38, fun o => o), none], [some (6, fun _ => 2), none, none, none, none, none], [some (6, fun o => o), some (2, fun o => o), some (3, fun o => o), none, none, none], [some (9, fun _ => 0), some (9, fun _ => 1), some (8, fun _ => 0), some (7, fun _ => 0), some (5, fun _ => 3), some (39, fun _ => 0), some (40, fun _ => 0), none]]
def kx_fts (c : Nat) : List kx_F := kx_ftl.getD c []
def kx_szl : List Nat := [0, 8, 14, 31, 35, 55, 75, 81, 87, 93, 99, 105, 111, 116, 140, 146, 346, 546, 746, 946, 1146, 1151, 1551, 1951, 2351, 2751, 2757, 2774, 2778, 2798, 2818, 2824, 2830, 2836, 2842, 2848, 2854, 2859, 2883, 2889, 3089, 3289, 3489, 3689, 3889, 3894, 4294, 4694, 5094, 5494, 5500, 5517, 5521, 5541, 5561, 5567, 5573, 5579, 5585, 5591, 5597, 5602, 5626, 5628, 5878, 5882, 5902, 5922, 5930, 5935, 5938, 5978, 5981, 6021, 6024, 6064, 6067, 6107, 6110, 6150, 6153, 6193, 6196, 6236, 6239, 6279]
def kx_sz (k : Nat) : Nat := kx_szl.getD k 6279
abbrev kx_NC : Nat := 85
abbrev kx_tSh : Nat := 4
def kx_nl : List (String × Nat × MethodName × String) := [("KeptLight$Fleet", 53, { cls := "KeptLight", name := "isWithin", desc := "(III)Z" }, "KeptLight"), ("KeptLight$Fleet", 56, { cls := "KeptLight", name := "isUnder", desc := "(II)Z" }, "KeptLight"), ("KeptLight$Station", 89, { cls := "KeptLight", name := "isHourOfDay", desc := "(I)Z" }, "KeptLight"), ("KeptLight$World", 92, { cls := "KeptLight", name := "fateIn", desc := "(LKeptLight$Station;I)I" }, "KeptLight"), ("KeptLight$Thought", 81, { cls := "KeptLight", name := "fateIn", desc := "(LKeptLight$Station;I)I" }, "KeptLight"), ("KeptLight", 9, { cls := "KeptLight$World", name := "<init>", desc := "()V" }, "KeptLight"), ("KeptLight$Station", 11, { cls := "KeptLight$Sky", name := "<init>", desc := "()V" }, "KeptLight"), ("KeptLight$Station", 20, { cls := "KeptLight$Crew", name := "<init>", desc := "()V" }, "KeptLight"), ("KeptLight$Station", 27, { cls := "KeptLight$Boat", name := "<init>", desc := "()V" }, "KeptLight"), ("KeptLight$World", 20, { cls := "KeptLight$Fleet", name := "<init>", desc := "()V" }, "KeptLight"), ("KeptLight$World", 27, { cls := "KeptLight$LogBook", name := "<init>", desc := "()V" }, "KeptLight"), ("KeptLight", 21, { cls := "KeptLight$Thought", name := "<init>", desc := "()V" }, "KeptLight"), ("KeptLight", 28, { cls := "KeptLight$Tape", name := "<init>", desc := "()V" }, "KeptLight"), ("KeptLight", 35, { cls := "KeptLight$Sky", name := "<init>", desc := "()V" }, "KeptLight"), ("KeptLight", 54, { cls := "KeptLight$Shelf", name := "<init>", desc := "()V" }, "KeptLight"), ("KeptLight$Tape", 47, { cls := "KeptLight", name := "isWithin", desc := "(III)Z" }, "KeptLight")]
/-- the private methods of AbstractStringBuilder, at a StringBuilder -/
def sq_W : List Cond := [(Jvm.Cond.selects "java/lang/StringBuilder" ({ cls := "java/lang/AbstractStringBuilder", name := "inflateIfNeededFor", desc := "(Ljava/lang/String;)V" } : Jvm.MethodName) ({ cls := "java/lang/AbstractStringBuilder", name := "inflateIfNeededFor", desc := "(Ljava/lang/String;)V" } : Jvm.MethodName)), (Jvm.Cond.selects "java/lang/StringBuilder" ({ cls := "java/lang/AbstractStringBuilder", name := "ensureCapacityInternal", desc := "(I)V" } : Jvm.MethodName) ({ cls := "java/lang/AbstractStringBuilder", name := "ensureCapacityInternal", desc := "(I)V" } : Jvm.MethodName)), (Jvm.Cond.selects "java/lang/StringBuilder" ({ cls := "java/lang/AbstractStringBuilder", name := "putStringAt", desc := "(ILjava/lang/String;)V" } : Jvm.MethodName) ({ cls := "java/lang/AbstractStringBuilder", name := "putStringAt", desc := "(ILjava/lang/String;)V" } : Jvm.MethodName))]
def kx_tbl : List Cond := (lw_tbl ++ sq_W).filter goodWord
