def RX0 : String := "WitheringLoft$1"
def TX0 : u_T := fun k => match k with
  | _ => ("", "", "", false)
def tyX0 : Nat → FieldType := fun k => match k with
  | _ => .int
theorem nmX0 : ∀ a, a < 0 → ∀ b, b < 0 → a ≠ b → (TX0 a).2.1 ≠ (TX0 b).2.1 := by decide +kernel
theorem tyX0_ok : ∀ k, k < 0 → parseFieldDescriptor (TX0 k).2.2.1 = some (tyX0 k) := by decide +kernel
def RX1 : String := "WitheringLoft$Air"
def TX1 : u_T := fun k => match k with
  | 0 => ("WitheringLoft$Air", "hour", "I", false)
  | 1 => ("WitheringLoft$Air", "usualHumidity", "I", false)
  | 2 => ("WitheringLoft$Air", "heatLevel", "I", false)
  | 3 => ("WitheringLoft$Air", "monsoonCount", "I", false)
  | _ => ("WitheringLoft$Air", "monsoonDays", "[I", true)
def tyX1 : Nat → FieldType := fun k => match k with
  | 0 => .int
  | 1 => .int
  | 2 => .int
  | 3 => .int
  | _ => .array .int
theorem nmX1 : ∀ a, a < 5 → ∀ b, b < 5 → a ≠ b → (TX1 a).2.1 ≠ (TX1 b).2.1 := by decide +kernel
theorem tyX1_ok : ∀ k, k < 5 → parseFieldDescriptor (TX1 k).2.2.1 = some (tyX1 k) := by decide +kernel
abbrev cX1_init : ByteArray := prog_3_method_1_code
def yX1_init : MethodName := ⟨RX1, "<init>", "()V"⟩
abbrev cX1_clear : ByteArray := prog_3_method_2_code
def yX1_clear : MethodName := ⟨RX1, "clear", "()V"⟩
abbrev cX1_become : ByteArray := prog_3_method_3_code
def yX1_become : MethodName := ⟨RX1, "become", "(LWitheringLoft$Air;)V"⟩
abbrev cX1_presentDay : ByteArray := prog_3_method_4_code
def yX1_presentDay : MethodName := ⟨RX1, "presentDay", "()I"⟩
abbrev cX1_hasHoursLeft : ByteArray := prog_3_method_5_code
def yX1_hasHoursLeft : MethodName := ⟨RX1, "hasHoursLeft", "(I)Z"⟩
abbrev cX1_hasRoomForMonsoon : ByteArray := prog_3_method_6_code
def yX1_hasRoomForMonsoon : MethodName := ⟨RX1, "hasRoomForMonsoon", "()Z"⟩
abbrev cX1_addMonsoon : ByteArray := prog_3_method_7_code
def yX1_addMonsoon : MethodName := ⟨RX1, "addMonsoon", "(I)V"⟩
abbrev cX1_hasMonsoonAt : ByteArray := prog_3_method_8_code
def yX1_hasMonsoonAt : MethodName := ⟨RX1, "hasMonsoonAt", "(I)Z"⟩
abbrev cX1_hoursToNextMonsoon : ByteArray := prog_3_method_9_code
def yX1_hoursToNextMonsoon : MethodName := ⟨RX1, "hoursToNextMonsoon", "()I"⟩
abbrev cX1_humidityOf : ByteArray := prog_3_method_10_code
def yX1_humidityOf : MethodName := ⟨RX1, "humidityOf", "(I)I"⟩
abbrev cX1_drynessOf : ByteArray := prog_3_method_11_code
def yX1_drynessOf : MethodName := ⟨RX1, "drynessOf", "(I)I"⟩
def RX2 : String := "WitheringLoft$Command"
def TX2 : u_T := fun k => match k with
  | _ => ("", "", "", false)
def tyX2 : Nat → FieldType := fun k => match k with
  | _ => .int
theorem nmX2 : ∀ a, a < 0 → ∀ b, b < 0 → a ≠ b → (TX2 a).2.1 ≠ (TX2 b).2.1 := by decide +kernel
theorem tyX2_ok : ∀ k, k < 0 → parseFieldDescriptor (TX2 k).2.2.1 = some (tyX2 k) := by decide +kernel
def RX3 : String := "WitheringLoft$History"
def TX3 : u_T := fun k => match k with
  | 0 => ("WitheringLoft$History", "ring", "[LWitheringLoft$Loft;", true)
  | 1 => ("WitheringLoft$History", "next", "I", false)
  | _ => ("WitheringLoft$History", "count", "I", false)
def tyX3 : Nat → FieldType := fun k => match k with
  | 0 => .array (.object "WitheringLoft$Loft")
  | 1 => .int
  | _ => .int
theorem nmX3 : ∀ a, a < 3 → ∀ b, b < 3 → a ≠ b → (TX3 a).2.1 ≠ (TX3 b).2.1 := by decide +kernel
theorem tyX3_ok : ∀ k, k < 3 → parseFieldDescriptor (TX3 k).2.2.1 = some (tyX3 k) := by decide +kernel
abbrev cX3_init : ByteArray := prog_5_method_1_code
def yX3_init : MethodName := ⟨RX3, "<init>", "()V"⟩
abbrev cX3_remember : ByteArray := prog_5_method_2_code
def yX3_remember : MethodName := ⟨RX3, "remember", "(LWitheringLoft$Loft;)V"⟩
abbrev cX3_takeBack : ByteArray := prog_5_method_3_code
def yX3_takeBack : MethodName := ⟨RX3, "takeBack", "(LWitheringLoft$Loft;)V"⟩
def RX4 : String := "WitheringLoft$Input"
def TX4 : u_T := fun k => match k with
  | 0 => ("WitheringLoft$Input", "bytes", "[B", true)
  | _ => ("WitheringLoft$Input", "length", "I", false)
def tyX4 : Nat → FieldType := fun k => match k with
  | 0 => .array .byte
  | _ => .int
theorem nmX4 : ∀ a, a < 2 → ∀ b, b < 2 → a ≠ b → (TX4 a).2.1 ≠ (TX4 b).2.1 := by decide +kernel
theorem tyX4_ok : ∀ k, k < 2 → parseFieldDescriptor (TX4 k).2.2.1 = some (tyX4 k) := by decide +kernel
abbrev cX4_init : ByteArray := prog_6_method_1_code
def yX4_init : MethodName := ⟨RX4, "<init>", "()V"⟩
def RX5 : String := "WitheringLoft$Loft"
def TX5 : u_T := fun k => match k with
  | 0 => ("WitheringLoft$Loft", "air", "LWitheringLoft$Air;", true)
  | 1 => ("WitheringLoft$Loft", "troughs", "[LWitheringLoft$Trough;", true)
  | 2 => ("WitheringLoft$Loft", "troughCount", "I", false)
  | 3 => ("WitheringLoft$Loft", "probes", "[LWitheringLoft$Probe;", true)
  | 4 => ("WitheringLoft$Loft", "probeCount", "I", false)
  | 5 => ("WitheringLoft$Loft", "target", "I", false)
  | 6 => ("WitheringLoft$Loft", "tolerance", "I", false)
  | 7 => ("WitheringLoft$Loft", "loadedKilograms", "I", false)
  | 8 => ("WitheringLoft$Loft", "dischargedKilograms", "I", false)
  | 9 => ("WitheringLoft$Loft", "discardedKilograms", "I", false)
  | 10 => ("WitheringLoft$Loft", "removedWeight", "I", false)
  | 11 => ("WitheringLoft$Loft", "totalWorth", "I", false)
  | _ => ("WitheringLoft$Loft", "lostWater", "I", false)
def tyX5 : Nat → FieldType := fun k => match k with
  | 0 => .object "WitheringLoft$Air"
  | 1 => .array (.object "WitheringLoft$Trough")
  | 2 => .int
  | 3 => .array (.object "WitheringLoft$Probe")
  | 4 => .int
  | 5 => .int
  | 6 => .int
  | 7 => .int
  | 8 => .int
  | 9 => .int
  | 10 => .int
  | 11 => .int
  | _ => .int
theorem nmX5 : ∀ a, a < 13 → ∀ b, b < 13 → a ≠ b → (TX5 a).2.1 ≠ (TX5 b).2.1 := by decide +kernel
theorem tyX5_ok : ∀ k, k < 13 → parseFieldDescriptor (TX5 k).2.2.1 = some (tyX5 k) := by decide +kernel
abbrev cX5_init : ByteArray := prog_7_method_1_code
def yX5_init : MethodName := ⟨RX5, "<init>", "()V"⟩
abbrev cX5_clear : ByteArray := prog_7_method_2_code
def yX5_clear : MethodName := ⟨RX5, "clear", "()V"⟩
abbrev cX5_become : ByteArray := prog_7_method_3_code
def yX5_become : MethodName := ⟨RX5, "become", "(LWitheringLoft$Loft;)V"⟩
abbrev cX5_hasTrough : ByteArray := prog_7_method_4_code
def yX5_hasTrough : MethodName := ⟨RX5, "hasTrough", "(I)Z"⟩
abbrev cX5_troughAt : ByteArray := prog_7_method_5_code
def yX5_troughAt : MethodName := ⟨RX5, "troughAt", "(I)LWitheringLoft$Trough;"⟩
abbrev cX5_hasProbe : ByteArray := prog_7_method_6_code
def yX5_hasProbe : MethodName := ⟨RX5, "hasProbe", "(I)Z"⟩
abbrev cX5_probeAt : ByteArray := prog_7_method_7_code
def yX5_probeAt : MethodName := ⟨RX5, "probeAt", "(I)LWitheringLoft$Probe;"⟩
abbrev cX5_hasRoomForTrough : ByteArray := prog_7_method_8_code
def yX5_hasRoomForTrough : MethodName := ⟨RX5, "hasRoomForTrough", "()Z"⟩
abbrev cX5_placeTrough : ByteArray := prog_7_method_9_code
def yX5_placeTrough : MethodName := ⟨RX5, "placeTrough", "(I)I"⟩
abbrev cX5_hasRoomForProbe : ByteArray := prog_7_method_10_code
def yX5_hasRoomForProbe : MethodName := ⟨RX5, "hasRoomForProbe", "()Z"⟩
abbrev cX5_placeProbe : ByteArray := prog_7_method_11_code
def yX5_placeProbe : MethodName := ⟨RX5, "placeProbe", "(III)I"⟩
abbrev cX5_aimAt : ByteArray := prog_7_method_12_code
def yX5_aimAt : MethodName := ⟨RX5, "aimAt", "(II)V"⟩
abbrev cX5_putLeaf : ByteArray := prog_7_method_13_code
def yX5_putLeaf : MethodName := ⟨RX5, "putLeaf", "(LWitheringLoft$Trough;II)V"⟩
abbrev cX5_dischargeLeaf : ByteArray := prog_7_method_14_code
def yX5_dischargeLeaf : MethodName := ⟨RX5, "dischargeLeaf", "(LWitheringLoft$Trough;)I"⟩
abbrev cX5_discardLeaf : ByteArray := prog_7_method_15_code
def yX5_discardLeaf : MethodName := ⟨RX5, "discardLeaf", "(LWitheringLoft$Trough;)I"⟩
abbrev cX5_letHoursPass : ByteArray := prog_7_method_16_code
def yX5_letHoursPass : MethodName := ⟨RX5, "letHoursPass", "(I)V"⟩
abbrev cX5_ageProbes : ByteArray := prog_7_method_17_code
def yX5_ageProbes : MethodName := ⟨RX5, "ageProbes", "()V"⟩
abbrev cX5_isTooDry : ByteArray := prog_7_method_18_code
def yX5_isTooDry : MethodName := ⟨RX5, "isTooDry", "(LWitheringLoft$Trough;)Z"⟩
abbrev cX5_isReady : ByteArray := prog_7_method_19_code
def yX5_isReady : MethodName := ⟨RX5, "isReady", "(LWitheringLoft$Trough;)Z"⟩
abbrev cX5_refusalOf : ByteArray := prog_7_method_20_code
def yX5_refusalOf : MethodName := ⟨RX5, "refusalOf", "(LWitheringLoft$Trough;)I"⟩
abbrev cX5_setOfReady : ByteArray := prog_7_method_21_code
def yX5_setOfReady : MethodName := ⟨RX5, "setOfReady", "()I"⟩
abbrev cX5_readingOf : ByteArray := prog_7_method_24_code
def yX5_readingOf : MethodName := ⟨RX5, "readingOf", "(LWitheringLoft$Probe;)I"⟩
abbrev cX5_countViolations : ByteArray := prog_7_method_26_code
def yX5_countViolations : MethodName := ⟨RX5, "countViolations", "()I"⟩
def RX6 : String := "WitheringLoft$Probe"
def TX6 : u_T := fun k => match k with
  | 0 => ("WitheringLoft$Probe", "trough", "I", false)
  | 1 => ("WitheringLoft$Probe", "layer", "I", false)
  | _ => ("WitheringLoft$Probe", "error", "I", false)
def tyX6 : Nat → FieldType := fun k => match k with
  | 0 => .int
  | 1 => .int
  | _ => .int
theorem nmX6 : ∀ a, a < 3 → ∀ b, b < 3 → a ≠ b → (TX6 a).2.1 ≠ (TX6 b).2.1 := by decide +kernel
theorem tyX6_ok : ∀ k, k < 3 → parseFieldDescriptor (TX6 k).2.2.1 = some (tyX6 k) := by decide +kernel
abbrev cX6_init : ByteArray := prog_8_method_1_code
def yX6_init : MethodName := ⟨RX6, "<init>", "()V"⟩
abbrev cX6_become : ByteArray := prog_8_method_2_code
def yX6_become : MethodName := ⟨RX6, "become", "(LWitheringLoft$Probe;)V"⟩
def RX7 : String := "WitheringLoft$Report"
def TX7 : u_T := fun k => match k with
  | 0 => ("WitheringLoft$Report", "bytes", "[B", true)
  | _ => ("WitheringLoft$Report", "length", "I", false)
def tyX7 : Nat → FieldType := fun k => match k with
  | 0 => .array .byte
  | _ => .int
theorem nmX7 : ∀ a, a < 2 → ∀ b, b < 2 → a ≠ b → (TX7 a).2.1 ≠ (TX7 b).2.1 := by decide +kernel
theorem tyX7_ok : ∀ k, k < 2 → parseFieldDescriptor (TX7 k).2.2.1 = some (tyX7 k) := by decide +kernel
abbrev cX7_init : ByteArray := prog_9_method_1_code
def yX7_init : MethodName := ⟨RX7, "<init>", "()V"⟩
def RX8 : String := "WitheringLoft$Script"
def TX8 : u_T := fun k => match k with
  | 0 => ("WitheringLoft$Script", "text", "LWitheringLoft$Input;", true)
  | 1 => ("WitheringLoft$Script", "draft", "LWitheringLoft$Loft;", true)
  | 2 => ("WitheringLoft$Script", "errorKind", "I", false)
  | 3 => ("WitheringLoft$Script", "errorOffset", "I", false)
  | 4 => ("WitheringLoft$Script", "position", "I", false)
  | 5 => ("WitheringLoft$Script", "token", "LWitheringLoft$Token;", false)
  | 6 => ("WitheringLoft$Script", "tokenStart", "I", false)
  | 7 => ("WitheringLoft$Script", "number", "I", false)
  | 8 => ("WitheringLoft$Script", "operands", "[I", true)
  | 9 => ("WitheringLoft$Script", "operandCount", "I", false)
  | 10 => ("WitheringLoft$Script", "executed", "I", false)
  | 11 => ("WitheringLoft$Script", "depth", "I", false)
  | 12 => ("WitheringLoft$Script", "bodyStarts", "[I", true)
  | _ => ("WitheringLoft$Script", "timesLeft", "[I", true)
def tyX8 : Nat → FieldType := fun k => match k with
  | 0 => .object "WitheringLoft$Input"
  | 1 => .object "WitheringLoft$Loft"
  | 2 => .int
  | 3 => .int
  | 4 => .int
  | 5 => .object "WitheringLoft$Token"
  | 6 => .int
  | 7 => .int
  | 8 => .array .int
  | 9 => .int
  | 10 => .int
  | 11 => .int
  | 12 => .array .int
  | _ => .array .int
theorem nmX8 : ∀ a, a < 14 → ∀ b, b < 14 → a ≠ b → (TX8 a).2.1 ≠ (TX8 b).2.1 := by decide +kernel
theorem tyX8_ok : ∀ k, k < 14 → parseFieldDescriptor (TX8 k).2.2.1 = some (tyX8 k) := by decide +kernel
abbrev cX8_init : ByteArray := prog_10_method_1_code
def yX8_init : MethodName := ⟨RX8, "<init>", "()V"⟩
def RX9 : String := "WitheringLoft$Token"
def TX9 : u_T := fun k => match k with
  | _ => ("", "", "", false)
def tyX9 : Nat → FieldType := fun k => match k with
  | _ => .int
theorem nmX9 : ∀ a, a < 0 → ∀ b, b < 0 → a ≠ b → (TX9 a).2.1 ≠ (TX9 b).2.1 := by decide +kernel
theorem tyX9_ok : ∀ k, k < 0 → parseFieldDescriptor (TX9 k).2.2.1 = some (tyX9 k) := by decide +kernel
def RX10 : String := "WitheringLoft$Trough"
def TX10 : u_T := fun k => match k with
  | 0 => ("WitheringLoft$Trough", "capacity", "I", false)
  | 1 => ("WitheringLoft$Trough", "speed", "I", false)
  | 2 => ("WitheringLoft$Trough", "upwards", "Z", false)
  | 3 => ("WitheringLoft$Trough", "kilograms", "I", false)
  | 4 => ("WitheringLoft$Trough", "fill", "I", false)
  | 5 => ("WitheringLoft$Trough", "weight", "I", false)
  | 6 => ("WitheringLoft$Trough", "bottom", "I", false)
  | 7 => ("WitheringLoft$Trough", "top", "I", false)
  | 8 => ("WitheringLoft$Trough", "warmth", "I", false)
  | _ => ("WitheringLoft$Trough", "damage", "I", false)
def tyX10 : Nat → FieldType := fun k => match k with
  | 0 => .int
  | 1 => .int
  | 2 => .boolean
  | 3 => .int
  | 4 => .int
  | 5 => .int
  | 6 => .int
  | 7 => .int
  | 8 => .int
  | _ => .int
theorem nmX10 : ∀ a, a < 10 → ∀ b, b < 10 → a ≠ b → (TX10 a).2.1 ≠ (TX10 b).2.1 := by decide +kernel
theorem tyX10_ok : ∀ k, k < 10 → parseFieldDescriptor (TX10 k).2.2.1 = some (tyX10 k) := by decide +kernel
abbrev cX10_init : ByteArray := prog_12_method_1_code
def yX10_init : MethodName := ⟨RX10, "<init>", "()V"⟩
abbrev cX10_build : ByteArray := prog_12_method_2_code
def yX10_build : MethodName := ⟨RX10, "build", "(I)V"⟩
abbrev cX10_become : ByteArray := prog_12_method_3_code
def yX10_become : MethodName := ⟨RX10, "become", "(LWitheringLoft$Trough;)V"⟩
abbrev cX10_hasLeaf : ByteArray := prog_12_method_4_code
def yX10_hasLeaf : MethodName := ⟨RX10, "hasLeaf", "()Z"⟩
abbrev cX10_takeLeaf : ByteArray := prog_12_method_5_code
def yX10_takeLeaf : MethodName := ⟨RX10, "takeLeaf", "(II)V"⟩
abbrev cX10_removeLeaf : ByteArray := prog_12_method_6_code
def yX10_removeLeaf : MethodName := ⟨RX10, "removeLeaf", "()V"⟩
abbrev cX10_mixLayers : ByteArray := prog_12_method_7_code
def yX10_mixLayers : MethodName := ⟨RX10, "mixLayers", "()V"⟩
abbrev cX10_moistureOf : ByteArray := prog_12_method_8_code
def yX10_moistureOf : MethodName := ⟨RX10, "moistureOf", "(I)I"⟩
abbrev cX10_gap : ByteArray := prog_12_method_9_code
def yX10_gap : MethodName := ⟨RX10, "gap", "()I"⟩
abbrev cX10_quality : ByteArray := prog_12_method_10_code
def yX10_quality : MethodName := ⟨RX10, "quality", "()I"⟩
abbrev cX10_lossAt : ByteArray := prog_12_method_11_code
def yX10_lossAt : MethodName := ⟨RX10, "lossAt", "(I)I"⟩
abbrev cX10_passHour : ByteArray := prog_12_method_12_code
def yX10_passHour : MethodName := ⟨RX10, "passHour", "(I)I"⟩
abbrev cX10_loseMoisture : ByteArray := prog_12_method_13_code
def yX10_loseMoisture : MethodName := ⟨RX10, "loseMoisture", "(I)I"⟩
abbrev cX10_countViolations : ByteArray := prog_12_method_14_code
def yX10_countViolations : MethodName := ⟨RX10, "countViolations", "()I"⟩
def RX11 : String := "WitheringLoft"
def TX11 : u_T := fun k => match k with
  | 0 => ("WitheringLoft", "loft", "LWitheringLoft$Loft;", true)
  | 1 => ("WitheringLoft", "snapshot", "LWitheringLoft$Loft;", true)
  | 2 => ("WitheringLoft", "snapshotSaved", "Z", false)
  | 3 => ("WitheringLoft", "history", "LWitheringLoft$History;", true)
  | 4 => ("WitheringLoft", "script", "LWitheringLoft$Script;", true)
  | 5 => ("WitheringLoft", "report", "LWitheringLoft$Report;", true)
  | _ => ("WitheringLoft", "trial", "LWitheringLoft$Trough;", true)
def tyX11 : Nat → FieldType := fun k => match k with
  | 0 => .object "WitheringLoft$Loft"
  | 1 => .object "WitheringLoft$Loft"
  | 2 => .boolean
  | 3 => .object "WitheringLoft$History"
  | 4 => .object "WitheringLoft$Script"
  | 5 => .object "WitheringLoft$Report"
  | _ => .object "WitheringLoft$Trough"
theorem nmX11 : ∀ a, a < 7 → ∀ b, b < 7 → a ≠ b → (TX11 a).2.1 ≠ (TX11 b).2.1 := by decide +kernel
theorem tyX11_ok : ∀ k, k < 7 → parseFieldDescriptor (TX11 k).2.2.1 = some (tyX11 k) := by decide +kernel
abbrev cX11_init : ByteArray := prog_1_method_1_code
def yX11_init : MethodName := ⟨RX11, "<init>", "()V"⟩
abbrev cX11_addTrough : ByteArray := prog_1_method_5_code
def yX11_addTrough : MethodName := ⟨RX11, "addTrough", "(I)I"⟩
abbrev cX11_load : ByteArray := prog_1_method_6_code
def yX11_load : MethodName := ⟨RX11, "load", "(III)I"⟩
abbrev cX11_setFan : ByteArray := prog_1_method_7_code
def yX11_setFan : MethodName := ⟨RX11, "setFan", "(II)I"⟩
abbrev cX11_reverse : ByteArray := prog_1_method_8_code
def yX11_reverse : MethodName := ⟨RX11, "reverse", "(I)Z"⟩
abbrev cX11_setHeat : ByteArray := prog_1_method_9_code
def yX11_setHeat : MethodName := ⟨RX11, "setHeat", "(I)I"⟩
abbrev cX11_setHumidity : ByteArray := prog_1_method_10_code
def yX11_setHumidity : MethodName := ⟨RX11, "setHumidity", "(I)I"⟩
abbrev cX11_announceMonsoon : ByteArray := prog_1_method_11_code
def yX11_announceMonsoon : MethodName := ⟨RX11, "announceMonsoon", "(I)I"⟩
abbrev cX11_setTarget : ByteArray := prog_1_method_12_code
def yX11_setTarget : MethodName := ⟨RX11, "setTarget", "(II)I"⟩
abbrev cX11_turnLeaf : ByteArray := prog_1_method_13_code
def yX11_turnLeaf : MethodName := ⟨RX11, "turnLeaf", "(I)I"⟩
abbrev cX11_discharge : ByteArray := prog_1_method_14_code
def yX11_discharge : MethodName := ⟨RX11, "discharge", "(I)I"⟩
abbrev cX11_discard : ByteArray := prog_1_method_15_code
def yX11_discard : MethodName := ⟨RX11, "discard", "(I)I"⟩
abbrev cX11_addProbe : ByteArray := prog_1_method_16_code
def yX11_addProbe : MethodName := ⟨RX11, "addProbe", "(III)I"⟩
abbrev cX11_moveProbe : ByteArray := prog_1_method_17_code
def yX11_moveProbe : MethodName := ⟨RX11, "moveProbe", "(III)I"⟩
abbrev cX11_calibrate : ByteArray := prog_1_method_18_code
def yX11_calibrate : MethodName := ⟨RX11, "calibrate", "(I)I"⟩
abbrev cX11_passHours : ByteArray := prog_1_method_19_code
def yX11_passHours : MethodName := ⟨RX11, "passHours", "(I)I"⟩
abbrev cX11_undo : ByteArray := prog_1_method_20_code
def yX11_undo : MethodName := ⟨RX11, "undo", "()I"⟩
abbrev cX11_undoCount : ByteArray := prog_1_method_21_code
def yX11_undoCount : MethodName := ⟨RX11, "undoCount", "()I"⟩
abbrev cX11_saveSnapshot : ByteArray := prog_1_method_22_code
def yX11_saveSnapshot : MethodName := ⟨RX11, "saveSnapshot", "()I"⟩
abbrev cX11_restoreSnapshot : ByteArray := prog_1_method_23_code
def yX11_restoreSnapshot : MethodName := ⟨RX11, "restoreSnapshot", "()I"⟩
abbrev cX11_hour : ByteArray := prog_1_method_26_code
def yX11_hour : MethodName := ⟨RX11, "hour", "()I"⟩
abbrev cX11_day : ByteArray := prog_1_method_27_code
def yX11_day : MethodName := ⟨RX11, "day", "()I"⟩
abbrev cX11_dryness : ByteArray := prog_1_method_29_code
def yX11_dryness : MethodName := ⟨RX11, "dryness", "()I"⟩
abbrev cX11_hoursToMonsoon : ByteArray := prog_1_method_30_code
def yX11_hoursToMonsoon : MethodName := ⟨RX11, "hoursToMonsoon", "()I"⟩
abbrev cX11_troughCount : ByteArray := prog_1_method_32_code
def yX11_troughCount : MethodName := ⟨RX11, "troughCount", "()I"⟩
abbrev cX11_probeCount : ByteArray := prog_1_method_33_code
def yX11_probeCount : MethodName := ⟨RX11, "probeCount", "()I"⟩
abbrev cX11_capacity : ByteArray := prog_1_method_34_code
def yX11_capacity : MethodName := ⟨RX11, "capacity", "(I)I"⟩
abbrev cX11_kilograms : ByteArray := prog_1_method_35_code
def yX11_kilograms : MethodName := ⟨RX11, "kilograms", "(I)I"⟩
abbrev cX11_fill : ByteArray := prog_1_method_36_code
def yX11_fill : MethodName := ⟨RX11, "fill", "(I)I"⟩
abbrev cX11_speed : ByteArray := prog_1_method_37_code
def yX11_speed : MethodName := ⟨RX11, "speed", "(I)I"⟩
abbrev cX11_isUpwards : ByteArray := prog_1_method_38_code
def yX11_isUpwards : MethodName := ⟨RX11, "isUpwards", "(I)Z"⟩
abbrev cX11_moisture : ByteArray := prog_1_method_39_code
def yX11_moisture : MethodName := ⟨RX11, "moisture", "(II)I"⟩
abbrev cX11_spread : ByteArray := prog_1_method_40_code
def yX11_spread : MethodName := ⟨RX11, "spread", "(I)I"⟩
abbrev cX11_warmth : ByteArray := prog_1_method_41_code
def yX11_warmth : MethodName := ⟨RX11, "warmth", "(I)I"⟩
abbrev cX11_damage : ByteArray := prog_1_method_42_code
def yX11_damage : MethodName := ⟨RX11, "damage", "(I)I"⟩
abbrev cX11_marks : ByteArray := prog_1_method_43_code
def yX11_marks : MethodName := ⟨RX11, "marks", "(I)I"⟩
abbrev cX11_whyNoDischarge : ByteArray := prog_1_method_45_code
def yX11_whyNoDischarge : MethodName := ⟨RX11, "whyNoDischarge", "(I)I"⟩
abbrev cX11_readyTroughs : ByteArray := prog_1_method_46_code
def yX11_readyTroughs : MethodName := ⟨RX11, "readyTroughs", "()I"⟩
abbrev cX11_weight : ByteArray := prog_1_method_47_code
def yX11_weight : MethodName := ⟨RX11, "weight", "(I)I"⟩
abbrev cX11_reading : ByteArray := prog_1_method_48_code
def yX11_reading : MethodName := ⟨RX11, "reading", "(I)I"⟩
abbrev cX11_probeTrough : ByteArray := prog_1_method_49_code
def yX11_probeTrough : MethodName := ⟨RX11, "probeTrough", "(I)I"⟩
abbrev cX11_probeLayer : ByteArray := prog_1_method_50_code
def yX11_probeLayer : MethodName := ⟨RX11, "probeLayer", "(I)I"⟩
abbrev cX11_hoursToReady : ByteArray := prog_1_method_53_code
def yX11_hoursToReady : MethodName := ⟨RX11, "hoursToReady", "(I)I"⟩
abbrev cX11_dischargedKilograms : ByteArray := prog_1_method_57_code
def yX11_dischargedKilograms : MethodName := ⟨RX11, "dischargedKilograms", "()I"⟩
abbrev cX11_discardedKilograms : ByteArray := prog_1_method_58_code
def yX11_discardedKilograms : MethodName := ⟨RX11, "discardedKilograms", "()I"⟩
abbrev cX11_totalWorth : ByteArray := prog_1_method_59_code
def yX11_totalWorth : MethodName := ⟨RX11, "totalWorth", "()I"⟩
abbrev cX11_lostWater : ByteArray := prog_1_method_60_code
def yX11_lostWater : MethodName := ⟨RX11, "lostWater", "()I"⟩
abbrev cX11_violations : ByteArray := prog_1_method_63_code
def yX11_violations : MethodName := ⟨RX11, "violations", "()I"⟩
abbrev cX11_existingTrough : ByteArray := prog_1_method_66_code
def yX11_existingTrough : MethodName := ⟨RX11, "existingTrough", "(I)LWitheringLoft$Trough;"⟩
abbrev cX11_existingProbe : ByteArray := prog_1_method_67_code
def yX11_existingProbe : MethodName := ⟨RX11, "existingProbe", "(I)LWitheringLoft$Probe;"⟩
abbrev cX11_requireRange : ByteArray := prog_1_method_68_code
def yX11_requireRange : MethodName := ⟨RX11, "requireRange", "(III)V"⟩
abbrev cX11_refuseIf : ByteArray := prog_1_method_69_code
def yX11_refuseIf : MethodName := ⟨RX11, "refuseIf", "(Z)V"⟩
abbrev cX11_notBelowLowest : ByteArray := prog_1_method_72_code
def yX11_notBelowLowest : MethodName := ⟨RX11, "notBelowLowest", "(I)I"⟩
def RX12 : String := "WitheringLoftModel"
def TX12 : u_T := fun k => match k with
  | _ => ("", "", "", false)
def tyX12 : Nat → FieldType := fun k => match k with
  | _ => .int
theorem nmX12 : ∀ a, a < 0 → ∀ b, b < 0 → a ≠ b → (TX12 a).2.1 ≠ (TX12 b).2.1 := by decide +kernel
theorem tyX12_ok : ∀ k, k < 0 → parseFieldDescriptor (TX12 k).2.2.1 = some (tyX12 k) := by decide +kernel
def RJx145de : String := "java/io/Serializable"
def TJx145de : u_T := fun k => match k with
  | _ => ("", "", "", false)
def tyJx145de : Nat → FieldType := fun k => match k with
  | _ => .int
theorem nmJx145de : ∀ a, a < 0 → ∀ b, b < 0 → a ≠ b → (TJx145de a).2.1 ≠ (TJx145de b).2.1 := by decide +kernel
theorem tyJx145de_ok : ∀ k, k < 0 → parseFieldDescriptor (TJx145de k).2.2.1 = some (tyJx145de k) := by decide +kernel
def RJx29ce0 : String := "java/lang/Enum"
def TJx29ce0 : u_T := fun k => match k with
  | _ => ("", "", "", false)
def tyJx29ce0 : Nat → FieldType := fun k => match k with
  | _ => .int
theorem nmJx29ce0 : ∀ a, a < 0 → ∀ b, b < 0 → a ≠ b → (TJx29ce0 a).2.1 ≠ (TJx29ce0 b).2.1 := by decide +kernel
theorem tyJx29ce0_ok : ∀ k, k < 0 → parseFieldDescriptor (TJx29ce0 k).2.2.1 = some (tyJx29ce0 k) := by decide +kernel
def RJ6 : String := "java/lang/Integer"
def TJ6 : u_T := fun k => match k with
  | _ => ("", "", "", false)
def tyJ6 : Nat → FieldType := fun k => match k with
  | _ => .int
theorem nmJ6 : ∀ a, a < 0 → ∀ b, b < 0 → a ≠ b → (TJ6 a).2.1 ≠ (TJ6 b).2.1 := by decide +kernel
theorem tyJ6_ok : ∀ k, k < 0 → parseFieldDescriptor (TJ6 k).2.2.1 = some (tyJ6 k) := by decide +kernel
abbrev cJ6_bitCount_0f7a4 : ByteArray := prog_21_method_49_code
def yJ6_bitCount_0f7a4 : MethodName := ⟨RJ6, "bitCount", "(I)I"⟩
def RJ9 : String := "java/lang/Math"
def TJ9 : u_T := fun k => match k with
  | _ => ("", "", "", false)
def tyJ9 : Nat → FieldType := fun k => match k with
  | _ => .int
theorem nmJ9 : ∀ a, a < 0 → ∀ b, b < 0 → a ≠ b → (TJ9 a).2.1 ≠ (TJ9 b).2.1 := by decide +kernel
theorem tyJ9_ok : ∀ k, k < 0 → parseFieldDescriptor (TJ9 k).2.2.1 = some (tyJ9 k) := by decide +kernel
abbrev cJ9_floorMod_7cf53 : ByteArray := prog_22_method_50_code
def yJ9_floorMod_7cf53 : MethodName := ⟨RJ9, "floorMod", "(II)I"⟩
abbrev cJ9_abs_0f7a4 : ByteArray := prog_22_method_59_code
def yJ9_abs_0f7a4 : MethodName := ⟨RJ9, "abs", "(I)I"⟩
abbrev cJ9_max_7cf53 : ByteArray := prog_22_method_65_code
def yJ9_max_7cf53 : MethodName := ⟨RJ9, "max", "(II)I"⟩
def RJ0 : String := "java/lang/String"
def TJ0 : u_T := fun k => match k with
  | _ => ("", "", "", false)
def tyJ0 : Nat → FieldType := fun k => match k with
  | _ => .int
theorem nmJ0 : ∀ a, a < 0 → ∀ b, b < 0 → a ≠ b → (TJ0 a).2.1 ≠ (TJ0 b).2.1 := by decide +kernel
theorem tyJ0_ok : ∀ k, k < 0 → parseFieldDescriptor (TJ0 k).2.2.1 = some (tyJ0 k) := by decide +kernel
def RL : String := "WitheringLoftLaw"
abbrev cL_cell : ByteArray := method_2_code
def yL_cell : MethodName := ⟨RL, "cell", "([II)I"⟩
abbrev cL_deed : ByteArray := method_3_code
def yL_deed : MethodName := ⟨RL, "deed", "(LWitheringLoft;I)V"⟩
abbrev cL_all : ByteArray := method_4_code
def yL_all : MethodName := ⟨RL, "all", "(LWitheringLoft;)J"⟩
abbrev cL_leaf : ByteArray := method_5_code
def yL_leaf : MethodName := ⟨RL, "leaf", "(LWitheringLoft;)I"⟩
abbrev cL_holds : ByteArray := method_6_code
def yL_holds : MethodName := ⟨RL, "holds", "(LWitheringLoft;)Z"⟩
abbrev cL_sum : ByteArray := method_7_code
def yL_sum : MethodName := ⟨RL, "sum", "(LWitheringLoft;)J"⟩
abbrev cL_isWeighed : ByteArray := method_8_code
def yL_isWeighed : MethodName := ⟨RL, "isWeighed", "(LWitheringLoft;I)Z"⟩
abbrev cL_isSame : ByteArray := method_9_code
def yL_isSame : MethodName := ⟨RL, "isSame", "(LWitheringLoft;II)Z"⟩
abbrev cL_law : ByteArray := code
def yL_law : MethodName := ⟨RL, "law", "([I)Z"⟩
abbrev vwCl : List vw_C := [(RX1, TX1, 5), (RX3, TX3, 3), (RX4, TX4, 2), (RX5, TX5, 13), (RX6, TX6, 3), (RX7, TX7, 2), (RX8, TX8, 14), (RX10, TX10, 10), (RX11, TX11, 7)]
